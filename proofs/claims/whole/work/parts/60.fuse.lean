/-! Joining two arcs: fuse, joinArcs. -/
/-- z becomes y at the places from at_ on, n of them -/
def sub_ (f : Nat → Int32) (at_ n : Nat) (y z : Int32) : Nat → Int32 := fun e => if at_ ≤ e ∧ e < at_ + n ∧ f e = z then y else f e
theorem sub_0 (f : Nat → Int32) (at_ : Nat) (y z : Int32) : sub_ f at_ 0 y z = f := by
  funext e
  exact if_neg (by omega)
theorem sub_at {f : Nat → Int32} {at_ n : Nat} {y z : Int32} : sub_ f at_ n y z (at_ + n) = f (at_ + n) := if_neg (by omega)
theorem sub_y {f : Nat → Int32} {at_ n : Nat} {y z : Int32} (h : f (at_ + n) = z) : u1 (sub_ f at_ n y z) (at_ + n) y = sub_ f at_ (n + 1) y z := by
  funext e
  unfold u1 sub_
  by_cases q : e = at_ + n
  · rw [if_pos q, if_pos ⟨by omega, by omega, by rw [q]; exact h⟩]
  · rw [if_neg q]
    by_cases r : at_ ≤ e ∧ e < at_ + n ∧ f e = z
    · rw [if_pos r, if_pos ⟨r.1, by omega, r.2.2⟩]
    · rw [if_neg r, if_neg (fun w => r ⟨w.1, by omega, w.2.2⟩)]
theorem sub_n {f : Nat → Int32} {at_ n : Nat} {y z : Int32} (h : ¬ f (at_ + n) = z) : sub_ f at_ n y z = sub_ f at_ (n + 1) y z := by
  funext e
  unfold sub_
  by_cases r : at_ ≤ e ∧ e < at_ + n ∧ f e = z
  · rw [if_pos r, if_pos ⟨r.1, by omega, r.2.2⟩]
  · rw [if_neg r, if_neg (fun w => by
      by_cases q : e = at_ + n
      · exact h (by rw [← q]; exact w.2.2)
      · exact r ⟨w.1, by omega, w.2.2⟩)]
section FUSE
variable {h : AH} {d bc bs : Nat} {Q : Option Value → AH → Prop}
theorem c_fuse {b n : Nat} (P : pt h b) (hn : ah_f h b 2 = nI n) (h40 : n ≤ 40) {y z : Int32} (ne : ¬ y = z) (k : ∀ h', fr [b + 2] h h' → ah_i h' (b + 2) = sub_ (ah_i h (b + 2)) 0 (4 * n) y z → Q none h') : ex_S yX7_fuse mX7_fuse d [.ref b, .int y, .int z] h bc bs Q := by
  refine X7_fuse_e (X7_fuse_0 ⟨fun _ => ?_, fun w => absurd w ne⟩)
  refine lp (4 * n) (fun j h' => fr [b + 2] h h' ∧ ah_i h' (b + 2) = sub_ (ah_i h (b + 2)) 0 j y z) (fun j h' => ex_G mX7_fuse d 18 [.ref b, .int y, .int z, .int (nI j)] [] h' bc bs Q) ⟨fr_refl _ _, (sub_0 _ _ _ _).symm⟩ ?_ ?_
  · rintro j h1 hj ⟨F, e0⟩ nx
    have P1 := pt_fr P F
    have hn1 : ah_f h1 b 2 = nI n := by rw [fr_f F b (by simp only [List.mem_cons, List.not_mem_nil, or_false, true_or, or_true, not_true_eq_false] <;> omega)]; exact hn
    have ej : ah_i h1 (b + 2) j = ah_i h (b + 2) j := by
      rw [e0]
      have := sub_at (f := ah_i h (b + 2)) (at_ := 0) (n := j) (y := y) (z := z)
      rw [Nat.zero_add] at this
      exact this
    refine X7_fuse_18 ?_
    simp (disch := omega) only [pt_o P1, pt_r0 P1, pt_r1 P1, pt_s0 P1, pt_s1 P1, pt_t0 P1, pt_t1 P1, hn1, ej, forall_eq, Option.some.injEq, exists_eq_left', Option.getD_some, n_sf, k_sf, f_sf_s, f_sf_n, r_sf, i_sf, l_sf, q_sf, ld0_sf, st0_sf, ld1_sf, ld2_sf, ld3_sf, ah_o_sf, in__sf, cp__sf, ah_x_sf, ah_ra_sf, n_si, k_si, f_si, r_si, i_si_s, i_si_n, l_si, q_si, ld0_si, st0_si, ld1_si, ld2_si, ld3_si, ah_o_si, in__si, cp__si, ah_x_si, ah_ra_si, n_sl, k_sl, f_sl, r_sl, i_sl, l_sl_s, l_sl_n, q_sl, ld0_sl, st0_sl, ld1_sl, ld2_sl, ld3_sl, ah_o_sl, in__sl, cp__sl, ah_x_sl, ah_ra_sl, n_wi, k_wi, f_wi, r_wi, i_wi_s, i_wi_n, l_wi, q_wi, ld0_wi, st0_wi, ld1_wi, ld2_wi, ld3_wi, ah_o_wi, in__wi, cp__wi, ah_x_wi, ah_ra_wi, n_wl, k_wl, f_wl, r_wl, i_wl, l_wl_s, l_wl_n, q_wl, ld0_wl, st0_wl, ld1_wl, ld2_wl, ld3_wl, ah_o_wl, in__wl, cp__wl, ah_x_wl, ah_ra_wl, n_sr, k_sr, f_sr, r_sr_s, r_sr_n, i_sr, l_sr, q_sr, n_sq, k_sq, f_sq, r_sq, i_sq, l_sq, q_sq_s, q_sq_n, il_0, il_1, il_2, il_3, il_4, il_5, il_6, il_7, il_8, il_9, il_10, il_11, il_12, il_13, il_14, il_15, il_16, il_17, il_18, il_19, il_20, il_24, il_30, il_31, il_38, il_39, il_40, il_41, il_48, il_50, il_59, il_60, il_63, il_64, il_70, il_80, il_99, il_100, il_120, il_130, il_140, il_144, il_159, il_160, il_162, il_200, il_210, il_240, il_264, il_280, il_281, il_300, il_364, il_368, il_599, il_600, il_601, il_999, il_1610, il_1620, il_1800, il_4000, il_5000, il_7000, il_14500, il_58240, il_1000000, m1_e, nI_1, nI_add, pk_mul, pk_div, pk_sub, nI_clamp, nI_leI, nI_ltI, nI_eq, m1_lt, m1_le, m1_gt, m1_ge, m1_ne, m1_en, ix_nI, im_nI, and1, and3, sh2_, shr2, corner_nI, turned_nI]
    refine ⟨trivial, fun w => by omega, fun _ => ⟨by omega, fun w => nx _ ⟨F, ?_⟩, fun w => ⟨by omega, nx _ ⟨fr_si F (by simp only [List.mem_cons, List.not_mem_nil, or_false, true_or, or_true, not_true_eq_false] <;> omega), ?_⟩⟩⟩⟩
    · rw [e0]
      exact sub_n (by rw [Nat.zero_add]; exact w)
    · rw [i_si_s, e0]
      have := sub_y (f := ah_i h (b + 2)) (at_ := 0) (n := j) (y := y) (z := z) (by rw [Nat.zero_add]; exact w)
      rw [Nat.zero_add] at this
      exact this
  · rintro h1 ⟨F, e0⟩
    have P1 := pt_fr P F
    have hn1 : ah_f h1 b 2 = nI n := by rw [fr_f F b (by simp only [List.mem_cons, List.not_mem_nil, or_false, true_or, or_true, not_true_eq_false] <;> omega)]; exact hn
    refine X7_fuse_18 ?_
    simp (disch := omega) only [pt_o P1, pt_r0 P1, pt_r1 P1, pt_s0 P1, pt_s1 P1, pt_t0 P1, pt_t1 P1, hn1, forall_eq, Option.some.injEq, exists_eq_left', Option.getD_some, n_sf, k_sf, f_sf_s, f_sf_n, r_sf, i_sf, l_sf, q_sf, ld0_sf, st0_sf, ld1_sf, ld2_sf, ld3_sf, ah_o_sf, in__sf, cp__sf, ah_x_sf, ah_ra_sf, n_si, k_si, f_si, r_si, i_si_s, i_si_n, l_si, q_si, ld0_si, st0_si, ld1_si, ld2_si, ld3_si, ah_o_si, in__si, cp__si, ah_x_si, ah_ra_si, n_sl, k_sl, f_sl, r_sl, i_sl, l_sl_s, l_sl_n, q_sl, ld0_sl, st0_sl, ld1_sl, ld2_sl, ld3_sl, ah_o_sl, in__sl, cp__sl, ah_x_sl, ah_ra_sl, n_wi, k_wi, f_wi, r_wi, i_wi_s, i_wi_n, l_wi, q_wi, ld0_wi, st0_wi, ld1_wi, ld2_wi, ld3_wi, ah_o_wi, in__wi, cp__wi, ah_x_wi, ah_ra_wi, n_wl, k_wl, f_wl, r_wl, i_wl, l_wl_s, l_wl_n, q_wl, ld0_wl, st0_wl, ld1_wl, ld2_wl, ld3_wl, ah_o_wl, in__wl, cp__wl, ah_x_wl, ah_ra_wl, n_sr, k_sr, f_sr, r_sr_s, r_sr_n, i_sr, l_sr, q_sr, n_sq, k_sq, f_sq, r_sq, i_sq, l_sq, q_sq_s, q_sq_n, il_0, il_1, il_2, il_3, il_4, il_5, il_6, il_7, il_8, il_9, il_10, il_11, il_12, il_13, il_14, il_15, il_16, il_17, il_18, il_19, il_20, il_24, il_30, il_31, il_38, il_39, il_40, il_41, il_48, il_50, il_59, il_60, il_63, il_64, il_70, il_80, il_99, il_100, il_120, il_130, il_140, il_144, il_159, il_160, il_162, il_200, il_210, il_240, il_264, il_280, il_281, il_300, il_364, il_368, il_599, il_600, il_601, il_999, il_1610, il_1620, il_1800, il_4000, il_5000, il_7000, il_14500, il_58240, il_1000000, m1_e, nI_1, nI_add, pk_mul, pk_div, pk_sub, nI_clamp, nI_leI, nI_ltI, nI_eq, m1_lt, m1_le, m1_gt, m1_ge, m1_ne, m1_en, ix_nI, im_nI, and1, and3, sh2_, shr2, corner_nI, turned_nI]
    exact ⟨trivial, fun _ => k h1 F e0, fun z => (by first | omega | exact absurd trivial z | exact z.elim | exact absurd rfl z)⟩
theorem c_fuse1 {b : Nat} (P : pt h b) {l : Nat} (hl : ah_f h b 3 = nI l) (y : Int32) (k : ∀ h', fr [b] h h' → ah_f h' b = u1 (ah_f h b) 3 (nI (l + 1)) → Q none h') : ex_S yX7_fuse mX7_fuse d [.ref b, .int y, .int y] h bc bs Q := by
  refine X7_fuse_e (X7_fuse_0 ⟨fun w => absurd rfl w, fun _ => ⟨pt_o P, fun h3 e3 => ?_⟩⟩)
  subst e3
  refine k _ (fr_sf (fr_refl _ h) (by simp only [List.mem_cons, List.not_mem_nil, or_false, true_or, or_true, not_true_eq_false] <;> omega)) ?_
  rw [f_sf_s, hl]
  have : nI l + 1 = nI (l + 1) := nI_1 l
  rw [this]
end FUSE
