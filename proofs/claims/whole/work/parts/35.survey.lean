/-! The class's Look: findFault, survey. -/
section SURVEY
variable {h : AH} {d bc bs : Nat} {Q : Option Value → AH → Prop} {b c n : Nat} {L A : Nat → Int32}
theorem c_blame0 (K : lk h b) (why p : Int32) (hr : ah_f h b 16 = nI 0) (k : Q none (ah_sf (ah_sf h b 16 why) b 17 p)) : ex_S yX4_blame mX4_blame d [.ref b, .int why, .int p] h bc bs Q := by
  refine X4_blame_e (X4_blame_0 ⟨lk_o K, fun z => absurd hr z, fun _ => ?_⟩)
  simp only [forall_eq]
  exact k
theorem c_blame1 (K : lk h b) (why p : Int32) (hr : ¬ ah_f h b 16 = nI 0) (k : Q none h) : ex_S yX4_blame mX4_blame d [.ref b, .int why, .int p] h bc bs Q :=
  X4_blame_e (X4_blame_0 ⟨lk_o K, fun _ => k, fun z => absurd z hr⟩)
/-- the Look's reason and place, its other numbers as they were -/
def BL (h h' : AH) (b r : Nat) (pl : Int32) : Prop := ah_f h' b 16 = nI r ∧ ah_f h' b 17 = pl ∧ ∀ k, k ≠ 16 → k ≠ 17 → ah_f h' b k = ah_f h b k
theorem BL_sf {h h' : AH} {b r : Nat} {pl : Int32} (x : BL h h' b r pl) (r' : Nat) (pl' : Int32) : BL h (ah_sf (ah_sf h' b 16 (nI r')) b 17 pl') b r' pl' := by
  refine ⟨?_, ?_, fun k h1 h2 => ?_⟩
  · rw [f_sf_s, u1_n _ _ (by decide), f_sf_s, u1_s]
  · rw [f_sf_s, u1_s]
  · rw [f_sf_s, u1_n _ _ h2, f_sf_s, u1_n _ _ h1]
    exact x.2.2 k h1 h2
theorem c_findFault (K : lk h b) (P : pt h c) (sep : c + 3 ≤ b ∨ b + 11 ≤ c) (O : PO n L A) (hn : ah_f h b 10 = nI n) (h16 : ah_f h b 16 = nI 0) (h17 : ah_f h b 17 = m1) (hL : ∀ c', c' < n → ah_i h (c + 1) c' = L c') (hA : ∀ e, e < 4 * n → ah_i h (c + 2) e = A e)
    (k : ∀ h' r pl, fr [b, b + 10] h h' → BL h h' b r pl → (r = 0 ∧ pl = m1 ∧ (∀ c, c < n → L c = nI 4) ∧ (∀ e, e < 4 * n → A e ≠ m1) ∧ Pd n (AN A)) ∨ (0 < r ∧ opn n L A r pl) → Q none h') : ex_S yX4_findFault mX4_findFault (d + 1) [.ref b, .ref c] h bc bs Q := by
  have h40 := O.1
  have hmo : ∀ {x y : AH}, fr [b] x y → fr [b, b + 10] x y := fun F => fr_mono F (fun a ha => by simp only [List.mem_cons, List.not_mem_nil, or_false] at ha ⊢; omega)
  refine X4_findFault_e (X4_findFault_0 ?_)
  refine lp n (σ := Nat × Int32 × AH) (fun j t => fr [b] h t.2.2 ∧ BL h t.2.2 b t.1 t.2.1 ∧ ((t.1 = 0 ∧ t.2.1 = m1 ∧ ∀ c, c < j → L c = nI 4) ∨ (0 < t.1 ∧ opn n L A t.1 t.2.1))) (fun j t => ex_G mX4_findFault (d + 1) 2 [.ref b, .ref c, .int (nI j)] [] t.2.2 bc bs Q) (s := (0, m1, h)) ⟨fr_refl _ h, ⟨h16, h17, fun _ _ _ => rfl⟩, Or.inl ⟨rfl, rfl, fun x hx => absurd hx (Nat.not_lt_zero x)⟩⟩ ?_ ?_
  · rintro j ⟨r, pl, h1⟩ hj ⟨F, B, e0⟩ nx
    simp only at F B e0 nx ⊢
    refine X4_findFault_2 ?_
    have K1 := lk_fr K F
    have P1 := pt_fr P F
    have hn1 : ah_f h1 b 10 = nI n := (B.2.2 10 (by decide) (by decide)).trans hn
    have hL1 : ah_i h1 (c + 1) j = L j := by rw [fr_i F (c + 1) (by simp only [List.mem_cons, List.not_mem_nil, or_false, true_or, or_true, not_true_eq_false] <;> omega)]; exact hL j hj
    by_cases q : L j = nI 4
    · rw [q] at hL1
      simp (disch := omega) only [forall_eq, Option.some.injEq, exists_eq_left', Option.getD_some, n_sf, k_sf, f_sf_s, f_sf_n, r_sf, i_sf, l_sf, q_sf, ld0_sf, st0_sf, ld1_sf, ld2_sf, ld3_sf, ah_o_sf, in__sf, cp__sf, ah_x_sf, ah_ra_sf, n_si, k_si, f_si, r_si, i_si_s, i_si_n, l_si, q_si, ld0_si, st0_si, ld1_si, ld2_si, ld3_si, ah_o_si, in__si, cp__si, ah_x_si, ah_ra_si, n_sl, k_sl, f_sl, r_sl, i_sl, l_sl_s, l_sl_n, q_sl, ld0_sl, st0_sl, ld1_sl, ld2_sl, ld3_sl, ah_o_sl, in__sl, cp__sl, ah_x_sl, ah_ra_sl, n_wi, k_wi, f_wi, r_wi, i_wi_s, i_wi_n, l_wi, q_wi, ld0_wi, st0_wi, ld1_wi, ld2_wi, ld3_wi, ah_o_wi, in__wi, cp__wi, ah_x_wi, ah_ra_wi, n_wl, k_wl, f_wl, r_wl, i_wl, l_wl_s, l_wl_n, q_wl, ld0_wl, st0_wl, ld1_wl, ld2_wl, ld3_wl, ah_o_wl, in__wl, cp__wl, ah_x_wl, ah_ra_wl, n_sr, k_sr, f_sr, r_sr_s, r_sr_n, i_sr, l_sr, q_sr, n_sq, k_sq, f_sq, r_sq, i_sq, l_sq, q_sq_s, q_sq_n, lk_o K1, lk_r9 K1, lk_s9 K1, lk_t9 K1, pt_o P1, pt_r0 P1, pt_r1 P1, pt_s0 P1, pt_s1 P1, pt_t0 P1, pt_t1 P1, il_0, il_1, il_2, il_3, il_4, il_5, il_6, il_7, il_8, il_9, il_10, il_11, il_12, il_13, il_14, il_15, il_16, il_17, il_18, il_19, il_20, il_24, il_30, il_31, il_38, il_39, il_40, il_41, il_48, il_50, il_59, il_60, il_63, il_64, il_70, il_80, il_99, il_100, il_120, il_130, il_140, il_144, il_159, il_160, il_162, il_200, il_210, il_240, il_264, il_280, il_281, il_300, il_364, il_368, il_599, il_600, il_601, il_999, il_1610, il_1620, il_1800, il_4000, il_5000, il_7000, il_14500, il_58240, il_1000000, m1_e, nI_1, nI_add, pk_mul, pk_div, pk_sub, nI_clamp, nI_leI, nI_ltI, nI_eq, m1_lt, m1_le, m1_gt, m1_ge, m1_ne, m1_en, ix_nI, im_nI, and1, and3, sh2_, shr2, corner_nI, turned_nI, hn1, hL1]
      refine ⟨trivial, fun z => by omega, fun _ => ⟨trivial, by omega, fun _ => nx (r, pl, h1) ⟨F, B, ?_⟩, fun z => (by first | omega | exact absurd trivial z | exact z.elim | exact absurd rfl z)⟩⟩
      rcases e0 with ⟨a1, a2, a3⟩ | e0
      · refine Or.inl ⟨a1, a2, fun x hx => ?_⟩
        by_cases e : x = j
        · rw [e]; exact q
        · exact a3 x (by omega)
      · exact Or.inr e0
    · simp (disch := omega) only [forall_eq, Option.some.injEq, exists_eq_left', Option.getD_some, n_sf, k_sf, f_sf_s, f_sf_n, r_sf, i_sf, l_sf, q_sf, ld0_sf, st0_sf, ld1_sf, ld2_sf, ld3_sf, ah_o_sf, in__sf, cp__sf, ah_x_sf, ah_ra_sf, n_si, k_si, f_si, r_si, i_si_s, i_si_n, l_si, q_si, ld0_si, st0_si, ld1_si, ld2_si, ld3_si, ah_o_si, in__si, cp__si, ah_x_si, ah_ra_si, n_sl, k_sl, f_sl, r_sl, i_sl, l_sl_s, l_sl_n, q_sl, ld0_sl, st0_sl, ld1_sl, ld2_sl, ld3_sl, ah_o_sl, in__sl, cp__sl, ah_x_sl, ah_ra_sl, n_wi, k_wi, f_wi, r_wi, i_wi_s, i_wi_n, l_wi, q_wi, ld0_wi, st0_wi, ld1_wi, ld2_wi, ld3_wi, ah_o_wi, in__wi, cp__wi, ah_x_wi, ah_ra_wi, n_wl, k_wl, f_wl, r_wl, i_wl, l_wl_s, l_wl_n, q_wl, ld0_wl, st0_wl, ld1_wl, ld2_wl, ld3_wl, ah_o_wl, in__wl, cp__wl, ah_x_wl, ah_ra_wl, n_sr, k_sr, f_sr, r_sr_s, r_sr_n, i_sr, l_sr, q_sr, n_sq, k_sq, f_sq, r_sq, i_sq, l_sq, q_sq_s, q_sq_n, lk_o K1, lk_r9 K1, lk_s9 K1, lk_t9 K1, pt_o P1, pt_r0 P1, pt_r1 P1, pt_s0 P1, pt_s1 P1, pt_t0 P1, pt_t1 P1, il_0, il_1, il_2, il_3, il_4, il_5, il_6, il_7, il_8, il_9, il_10, il_11, il_12, il_13, il_14, il_15, il_16, il_17, il_18, il_19, il_20, il_24, il_30, il_31, il_38, il_39, il_40, il_41, il_48, il_50, il_59, il_60, il_63, il_64, il_70, il_80, il_99, il_100, il_120, il_130, il_140, il_144, il_159, il_160, il_162, il_200, il_210, il_240, il_264, il_280, il_281, il_300, il_364, il_368, il_599, il_600, il_601, il_999, il_1610, il_1620, il_1800, il_4000, il_5000, il_7000, il_14500, il_58240, il_1000000, m1_e, nI_1, nI_add, pk_mul, pk_div, pk_sub, nI_clamp, nI_leI, nI_ltI, nI_eq, m1_lt, m1_le, m1_gt, m1_ge, m1_ne, m1_en, ix_nI, im_nI, and1, and3, sh2_, shr2, corner_nI, turned_nI, hn1, hL1]
      refine ⟨trivial, fun z => by omega, fun _ => ⟨trivial, by omega, fun z => absurd z q, fun _ => ?_⟩⟩
      rcases e0 with ⟨a1, a2, a3⟩ | e0
      · subst a1
        refine c_blame0 K1 _ _ B.1 ⟨rfl, nx (1, nI j, _) ⟨fr_sf (fr_sf F (by simp only [List.mem_cons, List.not_mem_nil, or_false, true_or, or_true, not_true_eq_false] <;> omega)) (by simp only [List.mem_cons, List.not_mem_nil, or_false, true_or, or_true, not_true_eq_false] <;> omega), BL_sf B 1 (nI j), Or.inr ⟨Nat.one_pos, Or.inl ⟨j, hj, q, a3, rfl, rfl⟩⟩⟩⟩
      · have hrl := opn_le e0.2
        refine c_blame1 K1 _ _ (by rw [B.1, nI_eq (by omega) (by omega)]; omega) ⟨rfl, nx (r, pl, h1) ⟨F, B, Or.inr e0⟩⟩
  · rintro ⟨r, pl, h1⟩ ⟨F, B, e0⟩
    simp only at F B e0 ⊢
    refine X4_findFault_2 ?_
    have K1 := lk_fr K F
    have hn1 : ah_f h1 b 10 = nI n := (B.2.2 10 (by decide) (by decide)).trans hn
    simp (disch := omega) only [forall_eq, Option.some.injEq, exists_eq_left', Option.getD_some, n_sf, k_sf, f_sf_s, f_sf_n, r_sf, i_sf, l_sf, q_sf, ld0_sf, st0_sf, ld1_sf, ld2_sf, ld3_sf, ah_o_sf, in__sf, cp__sf, ah_x_sf, ah_ra_sf, n_si, k_si, f_si, r_si, i_si_s, i_si_n, l_si, q_si, ld0_si, st0_si, ld1_si, ld2_si, ld3_si, ah_o_si, in__si, cp__si, ah_x_si, ah_ra_si, n_sl, k_sl, f_sl, r_sl, i_sl, l_sl_s, l_sl_n, q_sl, ld0_sl, st0_sl, ld1_sl, ld2_sl, ld3_sl, ah_o_sl, in__sl, cp__sl, ah_x_sl, ah_ra_sl, n_wi, k_wi, f_wi, r_wi, i_wi_s, i_wi_n, l_wi, q_wi, ld0_wi, st0_wi, ld1_wi, ld2_wi, ld3_wi, ah_o_wi, in__wi, cp__wi, ah_x_wi, ah_ra_wi, n_wl, k_wl, f_wl, r_wl, i_wl, l_wl_s, l_wl_n, q_wl, ld0_wl, st0_wl, ld1_wl, ld2_wl, ld3_wl, ah_o_wl, in__wl, cp__wl, ah_x_wl, ah_ra_wl, n_sr, k_sr, f_sr, r_sr_s, r_sr_n, i_sr, l_sr, q_sr, n_sq, k_sq, f_sq, r_sq, i_sq, l_sq, q_sq_s, q_sq_n, lk_o K1, lk_r9 K1, lk_s9 K1, lk_t9 K1, il_0, il_1, il_2, il_3, il_4, il_5, il_6, il_7, il_8, il_9, il_10, il_11, il_12, il_13, il_14, il_15, il_16, il_17, il_18, il_19, il_20, il_24, il_30, il_31, il_38, il_39, il_40, il_41, il_48, il_50, il_59, il_60, il_63, il_64, il_70, il_80, il_99, il_100, il_120, il_130, il_140, il_144, il_159, il_160, il_162, il_200, il_210, il_240, il_264, il_280, il_281, il_300, il_364, il_368, il_599, il_600, il_601, il_999, il_1610, il_1620, il_1800, il_4000, il_5000, il_7000, il_14500, il_58240, il_1000000, m1_e, nI_1, nI_add, pk_mul, pk_div, pk_sub, nI_clamp, nI_leI, nI_ltI, nI_eq, m1_lt, m1_le, m1_gt, m1_ge, m1_ne, m1_en, ix_nI, im_nI, and1, and3, sh2_, shr2, corner_nI, turned_nI, hn1]
    refine ⟨trivial, fun _ => ?_, fun z => (by first | omega | exact absurd trivial z | exact z.elim | exact absurd rfl z)⟩
    refine lp (4 * n) (σ := Nat × Int32 × AH) (fun j t => fr [b] h t.2.2 ∧ BL h t.2.2 b t.1 t.2.1 ∧ ((t.1 = 0 ∧ t.2.1 = m1 ∧ (∀ c, c < n → L c = nI 4) ∧ ∀ e, e < j → A e ≠ m1) ∨ (0 < t.1 ∧ opn n L A t.1 t.2.1))) (fun j t => ex_G mX4_findFault (d + 1) 34 [.ref b, .ref c, .int (nI j)] [] t.2.2 bc bs Q) (s := (r, pl, h1)) ⟨F, B, ?_⟩ ?_ ?_
    · rcases e0 with ⟨a1, a2, a3⟩ | e0
      · exact Or.inl ⟨a1, a2, a3, fun x hx => absurd hx (Nat.not_lt_zero x)⟩
      · exact Or.inr e0
    · clear F B e0 K1 hn1 h1 r pl
      rintro j ⟨r, pl, h1⟩ hj ⟨F, B, e0⟩ nx
      simp only at F B e0 nx ⊢
      refine X4_findFault_34 ?_
      have K1 := lk_fr K F
      have P1 := pt_fr P F
      have hn1 : ah_f h1 b 10 = nI n := (B.2.2 10 (by decide) (by decide)).trans hn
      have hA1 : ah_i h1 (c + 2) j = A j := by rw [fr_i F (c + 2) (by simp only [List.mem_cons, List.not_mem_nil, or_false, true_or, or_true, not_true_eq_false] <;> omega)]; exact hA j hj
      by_cases q : A j = m1
      · rw [q] at hA1
        simp (disch := omega) only [forall_eq, Option.some.injEq, exists_eq_left', Option.getD_some, n_sf, k_sf, f_sf_s, f_sf_n, r_sf, i_sf, l_sf, q_sf, ld0_sf, st0_sf, ld1_sf, ld2_sf, ld3_sf, ah_o_sf, in__sf, cp__sf, ah_x_sf, ah_ra_sf, n_si, k_si, f_si, r_si, i_si_s, i_si_n, l_si, q_si, ld0_si, st0_si, ld1_si, ld2_si, ld3_si, ah_o_si, in__si, cp__si, ah_x_si, ah_ra_si, n_sl, k_sl, f_sl, r_sl, i_sl, l_sl_s, l_sl_n, q_sl, ld0_sl, st0_sl, ld1_sl, ld2_sl, ld3_sl, ah_o_sl, in__sl, cp__sl, ah_x_sl, ah_ra_sl, n_wi, k_wi, f_wi, r_wi, i_wi_s, i_wi_n, l_wi, q_wi, ld0_wi, st0_wi, ld1_wi, ld2_wi, ld3_wi, ah_o_wi, in__wi, cp__wi, ah_x_wi, ah_ra_wi, n_wl, k_wl, f_wl, r_wl, i_wl, l_wl_s, l_wl_n, q_wl, ld0_wl, st0_wl, ld1_wl, ld2_wl, ld3_wl, ah_o_wl, in__wl, cp__wl, ah_x_wl, ah_ra_wl, n_sr, k_sr, f_sr, r_sr_s, r_sr_n, i_sr, l_sr, q_sr, n_sq, k_sq, f_sq, r_sq, i_sq, l_sq, q_sq_s, q_sq_n, lk_o K1, lk_r9 K1, lk_s9 K1, lk_t9 K1, pt_o P1, pt_r0 P1, pt_r1 P1, pt_s0 P1, pt_s1 P1, pt_t0 P1, pt_t1 P1, il_0, il_1, il_2, il_3, il_4, il_5, il_6, il_7, il_8, il_9, il_10, il_11, il_12, il_13, il_14, il_15, il_16, il_17, il_18, il_19, il_20, il_24, il_30, il_31, il_38, il_39, il_40, il_41, il_48, il_50, il_59, il_60, il_63, il_64, il_70, il_80, il_99, il_100, il_120, il_130, il_140, il_144, il_159, il_160, il_162, il_200, il_210, il_240, il_264, il_280, il_281, il_300, il_364, il_368, il_599, il_600, il_601, il_999, il_1610, il_1620, il_1800, il_4000, il_5000, il_7000, il_14500, il_58240, il_1000000, m1_e, nI_1, nI_add, pk_mul, pk_div, pk_sub, nI_clamp, nI_leI, nI_ltI, nI_eq, m1_lt, m1_le, m1_gt, m1_ge, m1_ne, m1_en, ix_nI, im_nI, and1, and3, sh2_, shr2, corner_nI, turned_nI, hn1, hA1]
        refine ⟨trivial, fun z => by omega, fun _ => ⟨trivial, by omega, fun z => (by first | omega | exact absurd trivial z | exact z.elim | exact absurd rfl z), fun _ => ?_⟩⟩
        rcases e0 with ⟨a1, a2, a3, a4⟩ | e0
        · subst a1
          refine c_blame0 K1 _ _ B.1 ⟨rfl, nx (2, nI (j / 4), _) ⟨fr_sf (fr_sf F (by simp only [List.mem_cons, List.not_mem_nil, or_false, true_or, or_true, not_true_eq_false] <;> omega)) (by simp only [List.mem_cons, List.not_mem_nil, or_false, true_or, or_true, not_true_eq_false] <;> omega), BL_sf B 2 (nI (j / 4)), Or.inr ⟨Nat.two_pos, Or.inr (Or.inl ⟨a3, j, hj, q, a4, rfl, rfl⟩)⟩⟩⟩
        · have hrl := opn_le e0.2
          refine c_blame1 K1 _ _ (by rw [B.1, nI_eq (by omega) (by omega)]; omega) ⟨rfl, nx (r, pl, h1) ⟨F, B, Or.inr e0⟩⟩
      · obtain ⟨w1, w2⟩ := PO_A O hj q
        rw [w1] at hA1
        simp (disch := omega) only [forall_eq, Option.some.injEq, exists_eq_left', Option.getD_some, n_sf, k_sf, f_sf_s, f_sf_n, r_sf, i_sf, l_sf, q_sf, ld0_sf, st0_sf, ld1_sf, ld2_sf, ld3_sf, ah_o_sf, in__sf, cp__sf, ah_x_sf, ah_ra_sf, n_si, k_si, f_si, r_si, i_si_s, i_si_n, l_si, q_si, ld0_si, st0_si, ld1_si, ld2_si, ld3_si, ah_o_si, in__si, cp__si, ah_x_si, ah_ra_si, n_sl, k_sl, f_sl, r_sl, i_sl, l_sl_s, l_sl_n, q_sl, ld0_sl, st0_sl, ld1_sl, ld2_sl, ld3_sl, ah_o_sl, in__sl, cp__sl, ah_x_sl, ah_ra_sl, n_wi, k_wi, f_wi, r_wi, i_wi_s, i_wi_n, l_wi, q_wi, ld0_wi, st0_wi, ld1_wi, ld2_wi, ld3_wi, ah_o_wi, in__wi, cp__wi, ah_x_wi, ah_ra_wi, n_wl, k_wl, f_wl, r_wl, i_wl, l_wl_s, l_wl_n, q_wl, ld0_wl, st0_wl, ld1_wl, ld2_wl, ld3_wl, ah_o_wl, in__wl, cp__wl, ah_x_wl, ah_ra_wl, n_sr, k_sr, f_sr, r_sr_s, r_sr_n, i_sr, l_sr, q_sr, n_sq, k_sq, f_sq, r_sq, i_sq, l_sq, q_sq_s, q_sq_n, lk_o K1, lk_r9 K1, lk_s9 K1, lk_t9 K1, pt_o P1, pt_r0 P1, pt_r1 P1, pt_s0 P1, pt_s1 P1, pt_t0 P1, pt_t1 P1, il_0, il_1, il_2, il_3, il_4, il_5, il_6, il_7, il_8, il_9, il_10, il_11, il_12, il_13, il_14, il_15, il_16, il_17, il_18, il_19, il_20, il_24, il_30, il_31, il_38, il_39, il_40, il_41, il_48, il_50, il_59, il_60, il_63, il_64, il_70, il_80, il_99, il_100, il_120, il_130, il_140, il_144, il_159, il_160, il_162, il_200, il_210, il_240, il_264, il_280, il_281, il_300, il_364, il_368, il_599, il_600, il_601, il_999, il_1610, il_1620, il_1800, il_4000, il_5000, il_7000, il_14500, il_58240, il_1000000, m1_e, nI_1, nI_add, pk_mul, pk_div, pk_sub, nI_clamp, nI_leI, nI_ltI, nI_eq, m1_lt, m1_le, m1_gt, m1_ge, m1_ne, m1_en, ix_nI, im_nI, and1, and3, sh2_, shr2, corner_nI, turned_nI, hn1, hA1]
        refine ⟨trivial, fun z => by omega, fun _ => ⟨trivial, by omega, fun _ => nx (r, pl, h1) ⟨F, B, ?_⟩, fun z => (by first | omega | exact absurd trivial z | exact z.elim | exact absurd rfl z)⟩⟩
        rcases e0 with ⟨a1, a2, a3, a4⟩ | e0
        · refine Or.inl ⟨a1, a2, a3, fun x hx => ?_⟩
          by_cases e : x = j
          · rw [e]; exact q
          · exact a4 x (by omega)
        · exact Or.inr e0
    · clear F B e0 K1 hn1 h1 r pl
      rintro ⟨r, pl, h1⟩ ⟨F, B, e0⟩
      simp only at F B e0 ⊢
      refine X4_findFault_34 ?_
      have K1 := lk_fr K F
      have hn1 : ah_f h1 b 10 = nI n := (B.2.2 10 (by decide) (by decide)).trans hn
      have hr1 := B.1
      rcases e0 with ⟨a1, a2, a3, a4⟩ | e0
      · subst a1
        simp (disch := omega) only [forall_eq, Option.some.injEq, exists_eq_left', Option.getD_some, n_sf, k_sf, f_sf_s, f_sf_n, r_sf, i_sf, l_sf, q_sf, ld0_sf, st0_sf, ld1_sf, ld2_sf, ld3_sf, ah_o_sf, in__sf, cp__sf, ah_x_sf, ah_ra_sf, n_si, k_si, f_si, r_si, i_si_s, i_si_n, l_si, q_si, ld0_si, st0_si, ld1_si, ld2_si, ld3_si, ah_o_si, in__si, cp__si, ah_x_si, ah_ra_si, n_sl, k_sl, f_sl, r_sl, i_sl, l_sl_s, l_sl_n, q_sl, ld0_sl, st0_sl, ld1_sl, ld2_sl, ld3_sl, ah_o_sl, in__sl, cp__sl, ah_x_sl, ah_ra_sl, n_wi, k_wi, f_wi, r_wi, i_wi_s, i_wi_n, l_wi, q_wi, ld0_wi, st0_wi, ld1_wi, ld2_wi, ld3_wi, ah_o_wi, in__wi, cp__wi, ah_x_wi, ah_ra_wi, n_wl, k_wl, f_wl, r_wl, i_wl, l_wl_s, l_wl_n, q_wl, ld0_wl, st0_wl, ld1_wl, ld2_wl, ld3_wl, ah_o_wl, in__wl, cp__wl, ah_x_wl, ah_ra_wl, n_sr, k_sr, f_sr, r_sr_s, r_sr_n, i_sr, l_sr, q_sr, n_sq, k_sq, f_sq, r_sq, i_sq, l_sq, q_sq_s, q_sq_n, lk_o K1, lk_r9 K1, lk_s9 K1, lk_t9 K1, il_0, il_1, il_2, il_3, il_4, il_5, il_6, il_7, il_8, il_9, il_10, il_11, il_12, il_13, il_14, il_15, il_16, il_17, il_18, il_19, il_20, il_24, il_30, il_31, il_38, il_39, il_40, il_41, il_48, il_50, il_59, il_60, il_63, il_64, il_70, il_80, il_99, il_100, il_120, il_130, il_140, il_144, il_159, il_160, il_162, il_200, il_210, il_240, il_264, il_280, il_281, il_300, il_364, il_368, il_599, il_600, il_601, il_999, il_1610, il_1620, il_1800, il_4000, il_5000, il_7000, il_14500, il_58240, il_1000000, m1_e, nI_1, nI_add, pk_mul, pk_div, pk_sub, nI_clamp, nI_leI, nI_ltI, nI_eq, m1_lt, m1_le, m1_gt, m1_ge, m1_ne, m1_en, ix_nI, im_nI, and1, and3, sh2_, shr2, corner_nI, turned_nI, hn1, hr1]
        refine ⟨trivial, fun _ => ⟨fun _ => j_fill (n := 100) (by exact lk_x9 K1) (by omega) _ ⟨rfl, ?_⟩, fun z => (by first | omega | exact absurd trivial z | exact z.elim | exact absurd rfl z)⟩, fun z => (by first | omega | exact absurd trivial z | exact z.elim | exact absurd rfl z)⟩
        refine lp (4 * n) (fun j h' => fr [b, b + 10] h h' ∧ BL h h' b 0 pl ∧ ∀ a, a < 100 → ah_i h' (b + 10) a = nI (ct (fun x => AN A x = a) j)) (fun j h' => ex_G mX4_findFault (d + 1) 85 [.ref b, .ref c, .int (nI j)] [] h' bc bs Q) ⟨fr_wi (hmo F) (by simp only [List.mem_cons, List.not_mem_nil, or_false, true_or, or_true, not_true_eq_false] <;> omega), B, fun a ha => ?_⟩ ?_ ?_
        · rw [i_wi_s, fl_in ha]
          rfl
        · clear F B K1 hn1 hr1 h1
          rintro j h1 hj ⟨F, B, e0⟩ nx
          refine X4_findFault_85 ?_
          have K1 := lk_fr K F
          have P1 := pt_fr P F
          have hn1 : ah_f h1 b 10 = nI n := (B.2.2 10 (by decide) (by decide)).trans hn
          obtain ⟨w1, w2⟩ := PO_A O hj (a4 j hj)
          have hA1 : ah_i h1 (c + 2) j = nI (AN A j) := by rw [fr_i F (c + 2) (by simp only [List.mem_cons, List.not_mem_nil, or_false, true_or, or_true, not_true_eq_false] <;> omega), hA j hj]; exact w1
          have ht := e0 (AN A j) w2
          have hcl := ct_le (fun x => AN A x = AN A j) j
          simp (disch := omega) only [forall_eq, Option.some.injEq, exists_eq_left', Option.getD_some, n_sf, k_sf, f_sf_s, f_sf_n, r_sf, i_sf, l_sf, q_sf, ld0_sf, st0_sf, ld1_sf, ld2_sf, ld3_sf, ah_o_sf, in__sf, cp__sf, ah_x_sf, ah_ra_sf, n_si, k_si, f_si, r_si, i_si_s, i_si_n, l_si, q_si, ld0_si, st0_si, ld1_si, ld2_si, ld3_si, ah_o_si, in__si, cp__si, ah_x_si, ah_ra_si, n_sl, k_sl, f_sl, r_sl, i_sl, l_sl_s, l_sl_n, q_sl, ld0_sl, st0_sl, ld1_sl, ld2_sl, ld3_sl, ah_o_sl, in__sl, cp__sl, ah_x_sl, ah_ra_sl, n_wi, k_wi, f_wi, r_wi, i_wi_s, i_wi_n, l_wi, q_wi, ld0_wi, st0_wi, ld1_wi, ld2_wi, ld3_wi, ah_o_wi, in__wi, cp__wi, ah_x_wi, ah_ra_wi, n_wl, k_wl, f_wl, r_wl, i_wl, l_wl_s, l_wl_n, q_wl, ld0_wl, st0_wl, ld1_wl, ld2_wl, ld3_wl, ah_o_wl, in__wl, cp__wl, ah_x_wl, ah_ra_wl, n_sr, k_sr, f_sr, r_sr_s, r_sr_n, i_sr, l_sr, q_sr, n_sq, k_sq, f_sq, r_sq, i_sq, l_sq, q_sq_s, q_sq_n, lk_o K1, lk_r9 K1, lk_s9 K1, lk_t9 K1, pt_o P1, pt_r0 P1, pt_r1 P1, pt_s0 P1, pt_s1 P1, pt_t0 P1, pt_t1 P1, il_0, il_1, il_2, il_3, il_4, il_5, il_6, il_7, il_8, il_9, il_10, il_11, il_12, il_13, il_14, il_15, il_16, il_17, il_18, il_19, il_20, il_24, il_30, il_31, il_38, il_39, il_40, il_41, il_48, il_50, il_59, il_60, il_63, il_64, il_70, il_80, il_99, il_100, il_120, il_130, il_140, il_144, il_159, il_160, il_162, il_200, il_210, il_240, il_264, il_280, il_281, il_300, il_364, il_368, il_599, il_600, il_601, il_999, il_1610, il_1620, il_1800, il_4000, il_5000, il_7000, il_14500, il_58240, il_1000000, m1_e, nI_1, nI_add, pk_mul, pk_div, pk_sub, nI_clamp, nI_leI, nI_ltI, nI_eq, m1_lt, m1_le, m1_gt, m1_ge, m1_ne, m1_en, ix_nI, im_nI, and1, and3, sh2_, shr2, corner_nI, turned_nI, hn1, hA1, ht]
          refine ⟨trivial, fun z => by omega, fun _ => ⟨trivial, by omega, by omega, by omega, nx _ ⟨fr_si F (by simp only [List.mem_cons, List.not_mem_nil, or_false, true_or, or_true, not_true_eq_false] <;> omega), B, fun a ha => ?_⟩⟩⟩
          rw [i_si_s]
          unfold u1
          by_cases e : a = AN A j
          · rw [if_pos e, e, ct_y (p := fun x => AN A x = AN A j) rfl]
          · rw [if_neg e, ct_n (p := fun x => AN A x = a) (fun z => e z.symm)]
            exact e0 a ha
        · clear F B K1 hn1 hr1 h1
          rintro h1 ⟨F, B, e0⟩
          refine X4_findFault_85 ?_
          have K1 := lk_fr K F
          have hn1 : ah_f h1 b 10 = nI n := (B.2.2 10 (by decide) (by decide)).trans hn
          simp (disch := omega) only [forall_eq, Option.some.injEq, exists_eq_left', Option.getD_some, n_sf, k_sf, f_sf_s, f_sf_n, r_sf, i_sf, l_sf, q_sf, ld0_sf, st0_sf, ld1_sf, ld2_sf, ld3_sf, ah_o_sf, in__sf, cp__sf, ah_x_sf, ah_ra_sf, n_si, k_si, f_si, r_si, i_si_s, i_si_n, l_si, q_si, ld0_si, st0_si, ld1_si, ld2_si, ld3_si, ah_o_si, in__si, cp__si, ah_x_si, ah_ra_si, n_sl, k_sl, f_sl, r_sl, i_sl, l_sl_s, l_sl_n, q_sl, ld0_sl, st0_sl, ld1_sl, ld2_sl, ld3_sl, ah_o_sl, in__sl, cp__sl, ah_x_sl, ah_ra_sl, n_wi, k_wi, f_wi, r_wi, i_wi_s, i_wi_n, l_wi, q_wi, ld0_wi, st0_wi, ld1_wi, ld2_wi, ld3_wi, ah_o_wi, in__wi, cp__wi, ah_x_wi, ah_ra_wi, n_wl, k_wl, f_wl, r_wl, i_wl, l_wl_s, l_wl_n, q_wl, ld0_wl, st0_wl, ld1_wl, ld2_wl, ld3_wl, ah_o_wl, in__wl, cp__wl, ah_x_wl, ah_ra_wl, n_sr, k_sr, f_sr, r_sr_s, r_sr_n, i_sr, l_sr, q_sr, n_sq, k_sq, f_sq, r_sq, i_sq, l_sq, q_sq_s, q_sq_n, lk_o K1, lk_r9 K1, lk_s9 K1, lk_t9 K1, il_0, il_1, il_2, il_3, il_4, il_5, il_6, il_7, il_8, il_9, il_10, il_11, il_12, il_13, il_14, il_15, il_16, il_17, il_18, il_19, il_20, il_24, il_30, il_31, il_38, il_39, il_40, il_41, il_48, il_50, il_59, il_60, il_63, il_64, il_70, il_80, il_99, il_100, il_120, il_130, il_140, il_144, il_159, il_160, il_162, il_200, il_210, il_240, il_264, il_280, il_281, il_300, il_364, il_368, il_599, il_600, il_601, il_999, il_1610, il_1620, il_1800, il_4000, il_5000, il_7000, il_14500, il_58240, il_1000000, m1_e, nI_1, nI_add, pk_mul, pk_div, pk_sub, nI_clamp, nI_leI, nI_ltI, nI_eq, m1_lt, m1_le, m1_gt, m1_ge, m1_ne, m1_en, ix_nI, im_nI, and1, and3, sh2_, shr2, corner_nI, turned_nI, hn1]
          refine ⟨trivial, fun _ => ?_, fun z => (by first | omega | exact absurd trivial z | exact z.elim | exact absurd rfl z)⟩
          refine lp (4 * n) (σ := Nat × Int32 × AH) (fun j t => fr [b, b + 10] h t.2.2 ∧ BL h t.2.2 b t.1 t.2.1 ∧ (∀ a, a < 100 → ah_i t.2.2 (b + 10) a = nI (ct (fun x => AN A x = a) (4 * n))) ∧ ((t.1 = 0 ∧ t.2.1 = m1 ∧ ∀ e, e < j → ct (fun x => AN A x = AN A e) (4 * n) = 2) ∨ (0 < t.1 ∧ opn n L A t.1 t.2.1))) (fun j t => ex_G mX4_findFault (d + 1) 118 [.ref b, .ref c, .int (nI j)] [] t.2.2 bc bs Q) (s := (0, pl, h1)) ⟨F, B, e0, Or.inl ⟨rfl, a2, fun x hx => absurd hx (Nat.not_lt_zero x)⟩⟩ ?_ ?_
          · clear F B e0 K1 hn1 h1
            rintro j ⟨r, pl, h1⟩ hj ⟨F, B, e0, e1⟩ nx
            simp only at F B e0 e1 nx ⊢
            refine X4_findFault_118 ?_
            have K1 := lk_fr K F
            have P1 := pt_fr P F
            have hn1 : ah_f h1 b 10 = nI n := (B.2.2 10 (by decide) (by decide)).trans hn
            obtain ⟨w1, w2⟩ := PO_A O hj (a4 j hj)
            have hA1 : ah_i h1 (c + 2) j = nI (AN A j) := by rw [fr_i F (c + 2) (by simp only [List.mem_cons, List.not_mem_nil, or_false, true_or, or_true, not_true_eq_false] <;> omega), hA j hj]; exact w1
            have ht := e0 (AN A j) w2
            have hcl := ct_le (fun x => AN A x = AN A j) (4 * n)
            simp (disch := omega) only [forall_eq, Option.some.injEq, exists_eq_left', Option.getD_some, n_sf, k_sf, f_sf_s, f_sf_n, r_sf, i_sf, l_sf, q_sf, ld0_sf, st0_sf, ld1_sf, ld2_sf, ld3_sf, ah_o_sf, in__sf, cp__sf, ah_x_sf, ah_ra_sf, n_si, k_si, f_si, r_si, i_si_s, i_si_n, l_si, q_si, ld0_si, st0_si, ld1_si, ld2_si, ld3_si, ah_o_si, in__si, cp__si, ah_x_si, ah_ra_si, n_sl, k_sl, f_sl, r_sl, i_sl, l_sl_s, l_sl_n, q_sl, ld0_sl, st0_sl, ld1_sl, ld2_sl, ld3_sl, ah_o_sl, in__sl, cp__sl, ah_x_sl, ah_ra_sl, n_wi, k_wi, f_wi, r_wi, i_wi_s, i_wi_n, l_wi, q_wi, ld0_wi, st0_wi, ld1_wi, ld2_wi, ld3_wi, ah_o_wi, in__wi, cp__wi, ah_x_wi, ah_ra_wi, n_wl, k_wl, f_wl, r_wl, i_wl, l_wl_s, l_wl_n, q_wl, ld0_wl, st0_wl, ld1_wl, ld2_wl, ld3_wl, ah_o_wl, in__wl, cp__wl, ah_x_wl, ah_ra_wl, n_sr, k_sr, f_sr, r_sr_s, r_sr_n, i_sr, l_sr, q_sr, n_sq, k_sq, f_sq, r_sq, i_sq, l_sq, q_sq_s, q_sq_n, lk_o K1, lk_r9 K1, lk_s9 K1, lk_t9 K1, pt_o P1, pt_r0 P1, pt_r1 P1, pt_s0 P1, pt_s1 P1, pt_t0 P1, pt_t1 P1, il_0, il_1, il_2, il_3, il_4, il_5, il_6, il_7, il_8, il_9, il_10, il_11, il_12, il_13, il_14, il_15, il_16, il_17, il_18, il_19, il_20, il_24, il_30, il_31, il_38, il_39, il_40, il_41, il_48, il_50, il_59, il_60, il_63, il_64, il_70, il_80, il_99, il_100, il_120, il_130, il_140, il_144, il_159, il_160, il_162, il_200, il_210, il_240, il_264, il_280, il_281, il_300, il_364, il_368, il_599, il_600, il_601, il_999, il_1610, il_1620, il_1800, il_4000, il_5000, il_7000, il_14500, il_58240, il_1000000, m1_e, nI_1, nI_add, pk_mul, pk_div, pk_sub, nI_clamp, nI_leI, nI_ltI, nI_eq, m1_lt, m1_le, m1_gt, m1_ge, m1_ne, m1_en, ix_nI, im_nI, and1, and3, sh2_, shr2, corner_nI, turned_nI, hn1, hA1, ht]
            refine ⟨trivial, fun z => by omega, fun _ => ⟨trivial, by omega, by omega, fun z => nx (r, pl, h1) ⟨F, B, e0, ?_⟩, fun z => ?_⟩⟩
            · rcases e1 with ⟨b1, b2, b3⟩ | e1
              · refine Or.inl ⟨b1, b2, fun x hx => ?_⟩
                by_cases e : x = j
                · rw [e]; exact z
                · exact b3 x (by omega)
              · exact Or.inr e1
            · rcases e1 with ⟨b1, b2, b3⟩ | e1
              · subst b1
                refine c_blame0 K1 _ _ B.1 ⟨rfl, nx (3, nI (j / 4), _) ⟨fr_sf (fr_sf F (by simp only [List.mem_cons, List.not_mem_nil, or_false, true_or, or_true, not_true_eq_false] <;> omega)) (by simp only [List.mem_cons, List.not_mem_nil, or_false, true_or, or_true, not_true_eq_false] <;> omega), BL_sf B 3 (nI (j / 4)), e0, Or.inr ⟨Nat.succ_pos 2, Or.inr (Or.inr (Or.inl ⟨a3, a4, j, hj, z, b3, rfl, rfl⟩))⟩⟩⟩
              · have hrl := opn_le e1.2
                refine c_blame1 K1 _ _ (by rw [B.1, nI_eq (by omega) (by omega)]; omega) ⟨rfl, nx (r, pl, h1) ⟨F, B, e0, Or.inr e1⟩⟩
          · clear F B e0 K1 hn1 h1
            rintro ⟨r, pl, h1⟩ ⟨F, B, e0, e1⟩
            simp only at F B e0 e1 ⊢
            refine X4_findFault_118 ?_
            have K1 := lk_fr K F
            have hn1 : ah_f h1 b 10 = nI n := (B.2.2 10 (by decide) (by decide)).trans hn
            simp (disch := omega) only [forall_eq, Option.some.injEq, exists_eq_left', Option.getD_some, n_sf, k_sf, f_sf_s, f_sf_n, r_sf, i_sf, l_sf, q_sf, ld0_sf, st0_sf, ld1_sf, ld2_sf, ld3_sf, ah_o_sf, in__sf, cp__sf, ah_x_sf, ah_ra_sf, n_si, k_si, f_si, r_si, i_si_s, i_si_n, l_si, q_si, ld0_si, st0_si, ld1_si, ld2_si, ld3_si, ah_o_si, in__si, cp__si, ah_x_si, ah_ra_si, n_sl, k_sl, f_sl, r_sl, i_sl, l_sl_s, l_sl_n, q_sl, ld0_sl, st0_sl, ld1_sl, ld2_sl, ld3_sl, ah_o_sl, in__sl, cp__sl, ah_x_sl, ah_ra_sl, n_wi, k_wi, f_wi, r_wi, i_wi_s, i_wi_n, l_wi, q_wi, ld0_wi, st0_wi, ld1_wi, ld2_wi, ld3_wi, ah_o_wi, in__wi, cp__wi, ah_x_wi, ah_ra_wi, n_wl, k_wl, f_wl, r_wl, i_wl, l_wl_s, l_wl_n, q_wl, ld0_wl, st0_wl, ld1_wl, ld2_wl, ld3_wl, ah_o_wl, in__wl, cp__wl, ah_x_wl, ah_ra_wl, n_sr, k_sr, f_sr, r_sr_s, r_sr_n, i_sr, l_sr, q_sr, n_sq, k_sq, f_sq, r_sq, i_sq, l_sq, q_sq_s, q_sq_n, lk_o K1, lk_r9 K1, lk_s9 K1, lk_t9 K1, il_0, il_1, il_2, il_3, il_4, il_5, il_6, il_7, il_8, il_9, il_10, il_11, il_12, il_13, il_14, il_15, il_16, il_17, il_18, il_19, il_20, il_24, il_30, il_31, il_38, il_39, il_40, il_41, il_48, il_50, il_59, il_60, il_63, il_64, il_70, il_80, il_99, il_100, il_120, il_130, il_140, il_144, il_159, il_160, il_162, il_200, il_210, il_240, il_264, il_280, il_281, il_300, il_364, il_368, il_599, il_600, il_601, il_999, il_1610, il_1620, il_1800, il_4000, il_5000, il_7000, il_14500, il_58240, il_1000000, m1_e, nI_1, nI_add, pk_mul, pk_div, pk_sub, nI_clamp, nI_leI, nI_ltI, nI_eq, m1_lt, m1_le, m1_gt, m1_ge, m1_ne, m1_en, ix_nI, im_nI, and1, and3, sh2_, shr2, corner_nI, turned_nI, hn1]
            refine ⟨trivial, fun _ => k h1 r pl F B ?_, fun z => (by first | omega | exact absurd trivial z | exact z.elim | exact absurd rfl z)⟩
            rcases e1 with ⟨b1, b2, b3⟩ | e1
            · exact Or.inl ⟨b1, b2, a3, a4, fun e he => ⟨(PO_A O he (a4 e he)).2, b3 e he⟩⟩
            · exact Or.inr e1
      · have hrl := opn_le e0.2
        have hr0 := e0.1
        simp (disch := omega) only [forall_eq, Option.some.injEq, exists_eq_left', Option.getD_some, n_sf, k_sf, f_sf_s, f_sf_n, r_sf, i_sf, l_sf, q_sf, ld0_sf, st0_sf, ld1_sf, ld2_sf, ld3_sf, ah_o_sf, in__sf, cp__sf, ah_x_sf, ah_ra_sf, n_si, k_si, f_si, r_si, i_si_s, i_si_n, l_si, q_si, ld0_si, st0_si, ld1_si, ld2_si, ld3_si, ah_o_si, in__si, cp__si, ah_x_si, ah_ra_si, n_sl, k_sl, f_sl, r_sl, i_sl, l_sl_s, l_sl_n, q_sl, ld0_sl, st0_sl, ld1_sl, ld2_sl, ld3_sl, ah_o_sl, in__sl, cp__sl, ah_x_sl, ah_ra_sl, n_wi, k_wi, f_wi, r_wi, i_wi_s, i_wi_n, l_wi, q_wi, ld0_wi, st0_wi, ld1_wi, ld2_wi, ld3_wi, ah_o_wi, in__wi, cp__wi, ah_x_wi, ah_ra_wi, n_wl, k_wl, f_wl, r_wl, i_wl, l_wl_s, l_wl_n, q_wl, ld0_wl, st0_wl, ld1_wl, ld2_wl, ld3_wl, ah_o_wl, in__wl, cp__wl, ah_x_wl, ah_ra_wl, n_sr, k_sr, f_sr, r_sr_s, r_sr_n, i_sr, l_sr, q_sr, n_sq, k_sq, f_sq, r_sq, i_sq, l_sq, q_sq_s, q_sq_n, lk_o K1, lk_r9 K1, lk_s9 K1, lk_t9 K1, il_0, il_1, il_2, il_3, il_4, il_5, il_6, il_7, il_8, il_9, il_10, il_11, il_12, il_13, il_14, il_15, il_16, il_17, il_18, il_19, il_20, il_24, il_30, il_31, il_38, il_39, il_40, il_41, il_48, il_50, il_59, il_60, il_63, il_64, il_70, il_80, il_99, il_100, il_120, il_130, il_140, il_144, il_159, il_160, il_162, il_200, il_210, il_240, il_264, il_280, il_281, il_300, il_364, il_368, il_599, il_600, il_601, il_999, il_1610, il_1620, il_1800, il_4000, il_5000, il_7000, il_14500, il_58240, il_1000000, m1_e, nI_1, nI_add, pk_mul, pk_div, pk_sub, nI_clamp, nI_leI, nI_ltI, nI_eq, m1_lt, m1_le, m1_gt, m1_ge, m1_ne, m1_en, ix_nI, im_nI, and1, and3, sh2_, shr2, corner_nI, turned_nI, hn1, hr1]
        exact ⟨trivial, fun _ => ⟨fun z => by omega, fun _ => k h1 r pl (hmo F) B (Or.inr e0)⟩, fun z => (by first | omega | exact absurd trivial z | exact z.elim | exact absurd rfl z)⟩
/-- what survey leaves of a whole picture -/
def LF (h : AH) (b n : Nat) (m : Nat → Nat) : Prop := (∀ e, e < 4 * n → ah_i h (b + 1) e = nI (m e)) ∧ ah_f h b 12 = nI (nR n m) ∧ RG n m (ah_i h (b + 2)) (ah_i h (b + 3)) ∧ ah_f h b 13 = nI (nP n m) ∧ ah_f h b 14 = nI (nQ n m) ∧ PL n m (ah_i h (b + 4)) (ah_i h (b + 5)) (nI 0) (nI 1) ∧ (∀ y, y < 4 * n → pmn n m y → ah_i h (b + 6) (ct (pmn n m) y) = nI y) ∧ (∀ c, c < n → ah_i h (b + 7) c = sgn n m c) ∧ ah_f h b 15 = wr n m n
def lkc (b : Nat) : List Nat := [b, b + 1, b + 2, b + 3, b + 4, b + 5, b + 6, b + 7, b + 8, b + 9, b + 10]
theorem lkc_sub {b : Nat} {l : List Nat} (h : ∀ a, a ∈ l → b ≤ a ∧ a ≤ b + 10) : ∀ a, a ∈ l → a ∈ lkc b := fun a ha => by
  have := h a ha
  unfold lkc
  simp only [List.mem_cons, List.not_mem_nil, or_false]
  omega
theorem lkc_no {b a : Nat} (h : a < b ∨ b + 10 < a) : a ∉ lkc b := by
  unfold lkc
  simp only [List.mem_cons, List.not_mem_nil, or_false]
  omega
theorem c_survey (K : lk h b) (P : pt h c) (sep : c + 3 ≤ b ∨ b + 11 ≤ c) (O : PO n L A) {lo : Int32} (hn : ah_f h c 2 = nI n) (hlo : ah_f h c 3 = lo) (hL : ∀ c', c' < n → ah_i h (c + 1) c' = L c') (hA : ∀ e, e < 4 * n → ah_i h (c + 2) e = A e)
    (k : ∀ h' r pl, fr (lkc b) h h' → ah_f h' b 10 = nI n → ah_f h' b 11 = lo → ah_f h' b 16 = nI r → ah_f h' b 17 = pl → opn n L A r pl → (r = 0 → LF h' b n (mt n (AN A))) → Q none h') : ex_S yX4_survey mX4_survey (d + 3) [.ref b, .ref c] h bc bs Q := by
  have h40 := O.1
  refine X4_survey_e (X4_survey_0 ?_)
  simp (disch := omega) only [forall_eq, Option.some.injEq, exists_eq_left', Option.getD_some, n_sf, k_sf, f_sf_s, f_sf_n, r_sf, i_sf, l_sf, q_sf, ld0_sf, st0_sf, ld1_sf, ld2_sf, ld3_sf, ah_o_sf, in__sf, cp__sf, ah_x_sf, ah_ra_sf, n_si, k_si, f_si, r_si, i_si_s, i_si_n, l_si, q_si, ld0_si, st0_si, ld1_si, ld2_si, ld3_si, ah_o_si, in__si, cp__si, ah_x_si, ah_ra_si, n_sl, k_sl, f_sl, r_sl, i_sl, l_sl_s, l_sl_n, q_sl, ld0_sl, st0_sl, ld1_sl, ld2_sl, ld3_sl, ah_o_sl, in__sl, cp__sl, ah_x_sl, ah_ra_sl, n_wi, k_wi, f_wi, r_wi, i_wi_s, i_wi_n, l_wi, q_wi, ld0_wi, st0_wi, ld1_wi, ld2_wi, ld3_wi, ah_o_wi, in__wi, cp__wi, ah_x_wi, ah_ra_wi, n_wl, k_wl, f_wl, r_wl, i_wl, l_wl_s, l_wl_n, q_wl, ld0_wl, st0_wl, ld1_wl, ld2_wl, ld3_wl, ah_o_wl, in__wl, cp__wl, ah_x_wl, ah_ra_wl, n_sr, k_sr, f_sr, r_sr_s, r_sr_n, i_sr, l_sr, q_sr, n_sq, k_sq, f_sq, r_sq, i_sq, l_sq, q_sq_s, q_sq_n, lk_o K, lk_r9 K, lk_s9 K, lk_t9 K, pt_o P, pt_r0 P, pt_r1 P, pt_s0 P, pt_s1 P, pt_t0 P, pt_t1 P, il_0, il_1, il_2, il_3, il_4, il_5, il_6, il_7, il_8, il_9, il_10, il_11, il_12, il_13, il_14, il_15, il_16, il_17, il_18, il_19, il_20, il_24, il_30, il_31, il_38, il_39, il_40, il_41, il_48, il_50, il_59, il_60, il_63, il_64, il_70, il_80, il_99, il_100, il_120, il_130, il_140, il_144, il_159, il_160, il_162, il_200, il_210, il_240, il_264, il_280, il_281, il_300, il_364, il_368, il_599, il_600, il_601, il_999, il_1610, il_1620, il_1800, il_4000, il_5000, il_7000, il_14500, il_58240, il_1000000, m1_e, nI_1, nI_add, pk_mul, pk_div, pk_sub, nI_clamp, nI_leI, nI_ltI, nI_eq, m1_lt, m1_le, m1_gt, m1_ge, m1_ne, m1_en, ix_nI, im_nI, and1, and3, sh2_, shr2, corner_nI, turned_nI, hn, hlo]
  refine ⟨trivial, trivial, ?_⟩
  have F0 : fr (lkc b) h (ah_sf (ah_sf (ah_sf (ah_sf h b 10 (nI n)) b 11 lo) b 16 (nI 0)) b 17 m1) := by
    have hb : b ∈ lkc b := List.mem_cons_self
    exact fr_sf (fr_sf (fr_sf (fr_sf (fr_refl _ h) hb) hb) hb) hb
  have a10 : ah_f (ah_sf (ah_sf (ah_sf (ah_sf h b 10 (nI n)) b 11 lo) b 16 (nI 0)) b 17 m1) b 10 = nI n := by simp (disch := omega) only [n_sf, k_sf, f_sf_s, f_sf_n, r_sf, i_sf, l_sf, q_sf, ld0_sf, st0_sf, ld1_sf, ld2_sf, ld3_sf, ah_o_sf, in__sf, cp__sf, ah_x_sf, ah_ra_sf, n_si, k_si, f_si, r_si, i_si_s, i_si_n, l_si, q_si, ld0_si, st0_si, ld1_si, ld2_si, ld3_si, ah_o_si, in__si, cp__si, ah_x_si, ah_ra_si, n_sl, k_sl, f_sl, r_sl, i_sl, l_sl_s, l_sl_n, q_sl, ld0_sl, st0_sl, ld1_sl, ld2_sl, ld3_sl, ah_o_sl, in__sl, cp__sl, ah_x_sl, ah_ra_sl, n_wi, k_wi, f_wi, r_wi, i_wi_s, i_wi_n, l_wi, q_wi, ld0_wi, st0_wi, ld1_wi, ld2_wi, ld3_wi, ah_o_wi, in__wi, cp__wi, ah_x_wi, ah_ra_wi, n_wl, k_wl, f_wl, r_wl, i_wl, l_wl_s, l_wl_n, q_wl, ld0_wl, st0_wl, ld1_wl, ld2_wl, ld3_wl, ah_o_wl, in__wl, cp__wl, ah_x_wl, ah_ra_wl, n_sr, k_sr, f_sr, r_sr_s, r_sr_n, i_sr, l_sr, q_sr, n_sq, k_sq, f_sq, r_sq, i_sq, l_sq, q_sq_s, q_sq_n, u1_s, u1_n]
  have a11 : ah_f (ah_sf (ah_sf (ah_sf (ah_sf h b 10 (nI n)) b 11 lo) b 16 (nI 0)) b 17 m1) b 11 = lo := by simp (disch := omega) only [n_sf, k_sf, f_sf_s, f_sf_n, r_sf, i_sf, l_sf, q_sf, ld0_sf, st0_sf, ld1_sf, ld2_sf, ld3_sf, ah_o_sf, in__sf, cp__sf, ah_x_sf, ah_ra_sf, n_si, k_si, f_si, r_si, i_si_s, i_si_n, l_si, q_si, ld0_si, st0_si, ld1_si, ld2_si, ld3_si, ah_o_si, in__si, cp__si, ah_x_si, ah_ra_si, n_sl, k_sl, f_sl, r_sl, i_sl, l_sl_s, l_sl_n, q_sl, ld0_sl, st0_sl, ld1_sl, ld2_sl, ld3_sl, ah_o_sl, in__sl, cp__sl, ah_x_sl, ah_ra_sl, n_wi, k_wi, f_wi, r_wi, i_wi_s, i_wi_n, l_wi, q_wi, ld0_wi, st0_wi, ld1_wi, ld2_wi, ld3_wi, ah_o_wi, in__wi, cp__wi, ah_x_wi, ah_ra_wi, n_wl, k_wl, f_wl, r_wl, i_wl, l_wl_s, l_wl_n, q_wl, ld0_wl, st0_wl, ld1_wl, ld2_wl, ld3_wl, ah_o_wl, in__wl, cp__wl, ah_x_wl, ah_ra_wl, n_sr, k_sr, f_sr, r_sr_s, r_sr_n, i_sr, l_sr, q_sr, n_sq, k_sq, f_sq, r_sq, i_sq, l_sq, q_sq_s, q_sq_n, u1_s, u1_n]
  have a16 : ah_f (ah_sf (ah_sf (ah_sf (ah_sf h b 10 (nI n)) b 11 lo) b 16 (nI 0)) b 17 m1) b 16 = nI 0 := by simp (disch := omega) only [n_sf, k_sf, f_sf_s, f_sf_n, r_sf, i_sf, l_sf, q_sf, ld0_sf, st0_sf, ld1_sf, ld2_sf, ld3_sf, ah_o_sf, in__sf, cp__sf, ah_x_sf, ah_ra_sf, n_si, k_si, f_si, r_si, i_si_s, i_si_n, l_si, q_si, ld0_si, st0_si, ld1_si, ld2_si, ld3_si, ah_o_si, in__si, cp__si, ah_x_si, ah_ra_si, n_sl, k_sl, f_sl, r_sl, i_sl, l_sl_s, l_sl_n, q_sl, ld0_sl, st0_sl, ld1_sl, ld2_sl, ld3_sl, ah_o_sl, in__sl, cp__sl, ah_x_sl, ah_ra_sl, n_wi, k_wi, f_wi, r_wi, i_wi_s, i_wi_n, l_wi, q_wi, ld0_wi, st0_wi, ld1_wi, ld2_wi, ld3_wi, ah_o_wi, in__wi, cp__wi, ah_x_wi, ah_ra_wi, n_wl, k_wl, f_wl, r_wl, i_wl, l_wl_s, l_wl_n, q_wl, ld0_wl, st0_wl, ld1_wl, ld2_wl, ld3_wl, ah_o_wl, in__wl, cp__wl, ah_x_wl, ah_ra_wl, n_sr, k_sr, f_sr, r_sr_s, r_sr_n, i_sr, l_sr, q_sr, n_sq, k_sq, f_sq, r_sq, i_sq, l_sq, q_sq_s, q_sq_n, u1_s, u1_n]
  have a17 : ah_f (ah_sf (ah_sf (ah_sf (ah_sf h b 10 (nI n)) b 11 lo) b 16 (nI 0)) b 17 m1) b 17 = m1 := by simp (disch := omega) only [n_sf, k_sf, f_sf_s, f_sf_n, r_sf, i_sf, l_sf, q_sf, ld0_sf, st0_sf, ld1_sf, ld2_sf, ld3_sf, ah_o_sf, in__sf, cp__sf, ah_x_sf, ah_ra_sf, n_si, k_si, f_si, r_si, i_si_s, i_si_n, l_si, q_si, ld0_si, st0_si, ld1_si, ld2_si, ld3_si, ah_o_si, in__si, cp__si, ah_x_si, ah_ra_si, n_sl, k_sl, f_sl, r_sl, i_sl, l_sl_s, l_sl_n, q_sl, ld0_sl, st0_sl, ld1_sl, ld2_sl, ld3_sl, ah_o_sl, in__sl, cp__sl, ah_x_sl, ah_ra_sl, n_wi, k_wi, f_wi, r_wi, i_wi_s, i_wi_n, l_wi, q_wi, ld0_wi, st0_wi, ld1_wi, ld2_wi, ld3_wi, ah_o_wi, in__wi, cp__wi, ah_x_wi, ah_ra_wi, n_wl, k_wl, f_wl, r_wl, i_wl, l_wl_s, l_wl_n, q_wl, ld0_wl, st0_wl, ld1_wl, ld2_wl, ld3_wl, ah_o_wl, in__wl, cp__wl, ah_x_wl, ah_ra_wl, n_sr, k_sr, f_sr, r_sr_s, r_sr_n, i_sr, l_sr, q_sr, n_sq, k_sq, f_sq, r_sq, i_sq, l_sq, q_sq_s, q_sq_n, u1_s, u1_n]
  generalize ah_sf (ah_sf (ah_sf (ah_sf h b 10 (nI n)) b 11 lo) b 16 (nI 0)) b 17 m1 = h0 at F0 a10 a11 a16 a17 ⊢
  have K0 := lk_fr K F0
  have P0 := pt_fr P F0
  refine c_findFault K0 P0 sep O a10 a16 a17 (fun c' hc' => by rw [fr_i F0 (c + 1) (lkc_no (by omega))]; exact hL c' hc') (fun e he => by rw [fr_i F0 (c + 2) (lkc_no (by omega))]; exact hA e he) (fun h1 r pl F1 B e0 => ?_)
  have K1 := lk_fr K0 F1
  have F1' : fr (lkc b) h h1 := fr_trans F0 (fr_mono F1 (lkc_sub (fun a ha => by simp only [List.mem_cons, List.not_mem_nil, or_false] at ha; omega)))
  have hr1 := B.1
  have b10 : ah_f h1 b 10 = nI n := (B.2.2 10 (by decide) (by decide)).trans a10
  have b11 : ah_f h1 b 11 = lo := (B.2.2 11 (by decide) (by decide)).trans a11
  refine ⟨rfl, lk_o K1, ?_⟩
  rcases e0 with ⟨e1, e2, e3, e4, e5⟩ | ⟨e1, e2⟩
  · subst e1
    refine ⟨fun _ => ?_, fun z => absurd hr1 z⟩
    have R := e5.mt
    have P1 := pt_fr P F1'
    refine c_pairUp (l := lo) K1 P1 sep (by rw [fr_f F1' c (lkc_no (by omega))]; exact hn) (by rw [fr_f F1' c (lkc_no (by omega))]; exact hlo) h40 (fun e he => by rw [fr_i F1' (c + 2) (lkc_no (by omega)), hA e he]; exact (PO_A O he (e4 e he)).1) R (fun h2 F2 g1 g2 g3 g4 => ?_)
    have K2 := lk_fr K1 F2
    refine ⟨rfl, lk_o K2, c_findRegions K2 h40 g1 g4 R (fun h3 F3 i1 i2 i3 => ?_)⟩
    have K3 := lk_fr K2 F3
    refine ⟨rfl, lk_o K3, c_findParts K3 h40 ((i2 10 (by decide)).trans g1) (fun e he => by rw [fr_i F3 (b + 1) (by simp only [List.mem_cons, List.not_mem_nil, or_false, true_or, or_true, not_true_eq_false] <;> omega)]; exact g4 e he) R (fun h4 F4 j1 j2 => ?_)⟩
    have K4 := lk_fr K3 F4
    have F4' : fr (lkc b) h h4 := fr_trans F1' (fr_trans (fr_mono F2 (lkc_sub (fun a ha => by simp only [List.mem_cons, List.not_mem_nil, or_false] at ha; omega))) (fr_trans (fr_mono F3 (lkc_sub (fun a ha => by simp only [List.mem_cons, List.not_mem_nil, or_false] at ha; omega))) (fr_mono F4 (lkc_sub (fun a ha => by simp only [List.mem_cons, List.not_mem_nil, or_false] at ha; omega)))))
    have c10 : ah_f h4 b 10 = nI n := (j2 10 (by decide)).trans ((i2 10 (by decide)).trans g1)
    have c11 : ah_f h4 b 11 = lo := (j2 11 (by decide)).trans ((i2 11 (by decide)).trans g2)
    have c12 : ah_f h4 b 12 = nI (nR n (mt n (AN A))) := (j2 12 (by decide)).trans i1
    have c16 : ah_f h4 b 16 = nI 0 := (j2 16 (by decide)).trans ((i2 16 (by decide)).trans ((g3 16 (by decide) (by decide)).trans hr1))
    have c17 : ah_f h4 b 17 = m1 := (j2 17 (by decide)).trans ((i2 17 (by decide)).trans ((g3 17 (by decide) (by decide)).trans (B.2.1.trans e2)))
    have l1 := nR_le n (mt n (AN A))
    have l2 := nP_le n (mt n (AN A))
    refine ⟨rfl, lk_o K4, ?_⟩
    simp (disch := omega) only [il_0, il_1, il_2, il_3, il_4, il_5, il_6, il_7, il_8, il_9, il_10, il_11, il_12, il_13, il_14, il_15, il_16, il_17, il_18, il_19, il_20, il_24, il_30, il_31, il_38, il_39, il_40, il_41, il_48, il_50, il_59, il_60, il_63, il_64, il_70, il_80, il_99, il_100, il_120, il_130, il_140, il_144, il_159, il_160, il_162, il_200, il_210, il_240, il_264, il_280, il_281, il_300, il_364, il_368, il_599, il_600, il_601, il_999, il_1610, il_1620, il_1800, il_4000, il_5000, il_7000, il_14500, il_58240, il_1000000, m1_e, nI_1, nI_add, pk_mul, pk_div, pk_sub, nI_clamp, nI_leI, nI_ltI, nI_eq, m1_lt, m1_le, m1_gt, m1_ge, m1_ne, m1_en, ix_nI, im_nI, and1, and3, sh2_, shr2, corner_nI, turned_nI, c10, c12, j1]
    constructor
    · intro z
      refine c_findPieces K4 h40 c10 (fun e he => by rw [fr_i F4 (b + 1) (by simp only [List.mem_cons, List.not_mem_nil, or_false, true_or, or_true, not_true_eq_false] <;> omega), fr_i F3 (b + 1) (by simp only [List.mem_cons, List.not_mem_nil, or_false, true_or, or_true, not_true_eq_false] <;> omega)]; exact g4 e he) R (fun h5 F5 k1 k2 k3 k4 => ?_)
      have K5 := lk_fr K4 F5
      refine ⟨rfl, lk_o K5, c_findSigns K5 h40 ((k2 10 (by decide)).trans c10) R k3 (fun h6 F6 l1 l2 l3 => ?_)⟩
      have F6' : fr (lkc b) h h6 := fr_trans F4' (fr_trans (fr_mono F5 (lkc_sub (fun a ha => by simp only [List.mem_cons, List.not_mem_nil, or_false] at ha; omega))) (fr_mono F6 (lkc_sub (fun a ha => by simp only [List.mem_cons, List.not_mem_nil, or_false] at ha; omega))))
      refine ⟨rfl, k h6 0 m1 F6' ((l2 10 (by decide)).trans ((k2 10 (by decide)).trans c10)) ((l2 11 (by decide)).trans ((k2 11 (by decide)).trans c11)) ((l2 16 (by decide)).trans ((k2 16 (by decide)).trans c16)) ((l2 17 (by decide)).trans ((k2 17 (by decide)).trans c17)) (Or.inr (Or.inr (Or.inr ⟨e3, e4, e5, rfl, Or.inl ⟨z, rfl⟩⟩))) (fun _ => ?_)⟩
      refine ⟨fun e he => ?_, (l2 12 (by decide)).trans ((k2 12 (by decide)).trans c12), ?_, (l2 13 (by decide)).trans ((k2 13 (by decide)).trans j1), (l2 14 (by decide)).trans k1, ?_, fun y hy my => ?_, l3, l1⟩
      · rw [fr_i F6 (b + 1) (by simp only [List.mem_cons, List.not_mem_nil, or_false, true_or, or_true, not_true_eq_false] <;> omega), fr_i F5 (b + 1) (by simp only [List.mem_cons, List.not_mem_nil, or_false, true_or, or_true, not_true_eq_false] <;> omega), fr_i F4 (b + 1) (by simp only [List.mem_cons, List.not_mem_nil, or_false, true_or, or_true, not_true_eq_false] <;> omega), fr_i F3 (b + 1) (by simp only [List.mem_cons, List.not_mem_nil, or_false, true_or, or_true, not_true_eq_false] <;> omega)]
        exact g4 e he
      · rw [fr_i F6 (b + 2) (by simp only [List.mem_cons, List.not_mem_nil, or_false, true_or, or_true, not_true_eq_false] <;> omega), fr_i F5 (b + 2) (by simp only [List.mem_cons, List.not_mem_nil, or_false, true_or, or_true, not_true_eq_false] <;> omega), fr_i F4 (b + 2) (by simp only [List.mem_cons, List.not_mem_nil, or_false, true_or, or_true, not_true_eq_false] <;> omega), fr_i F6 (b + 3) (by simp only [List.mem_cons, List.not_mem_nil, or_false, true_or, or_true, not_true_eq_false] <;> omega), fr_i F5 (b + 3) (by simp only [List.mem_cons, List.not_mem_nil, or_false, true_or, or_true, not_true_eq_false] <;> omega), fr_i F4 (b + 3) (by simp only [List.mem_cons, List.not_mem_nil, or_false, true_or, or_true, not_true_eq_false] <;> omega)]
        exact i3
      · rw [fr_i F6 (b + 4) (by simp only [List.mem_cons, List.not_mem_nil, or_false, true_or, or_true, not_true_eq_false] <;> omega), fr_i F6 (b + 5) (by simp only [List.mem_cons, List.not_mem_nil, or_false, true_or, or_true, not_true_eq_false] <;> omega)]
        exact k3
      · rw [fr_i F6 (b + 6) (by simp only [List.mem_cons, List.not_mem_nil, or_false, true_or, or_true, not_true_eq_false] <;> omega)]
        exact k4 y hy my
    · intro z
      refine k _ 4 m1 (fr_sf F4' List.mem_cons_self) ?_ ?_ ?_ ?_ (Or.inr (Or.inr (Or.inr ⟨e3, e4, e5, rfl, Or.inr ⟨z, rfl⟩⟩))) (fun w => absurd w (by decide))
      · rw [f_sf_s, u1_n _ _ (by decide)]; exact c10
      · rw [f_sf_s, u1_n _ _ (by decide)]; exact c11
      · rw [f_sf_s, u1_s]
      · rw [f_sf_s, u1_n _ _ (by decide)]; exact c17
  · have hrl := opn_le e2
    refine ⟨fun z => ?_, fun _ => k h1 r pl F1' b10 b11 hr1 B.2.1 e2 (fun w => by omega)⟩
    have z' : nI r = nI 0 := hr1.symm.trans z
    rw [nI_eq (by omega) (by omega)] at z'
    omega
end SURVEY
