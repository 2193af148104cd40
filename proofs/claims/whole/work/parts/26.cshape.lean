/-! The class's shapes by their base: a Look, a Picture; Arrays.fill. -/
def lk (h : AH) (b : Nat) : Prop := b + 11 ≤ 10000000 ∧ ah_o h b 4 ∧ (∀ k, k < 10 → ah_r h b k = some (b + 1 + k)) ∧ (∀ k, k < 6 → ah_x h (b + 1 + k) 0 160) ∧ (∀ k, k < 3 → ah_x h (b + 7 + k) 0 40) ∧ ah_x h (b + 10) 0 100
def pt (h : AH) (b : Nat) : Prop := b + 3 ≤ 10000000 ∧ ah_o h b 7 ∧ ah_r h b 0 = some (b + 1) ∧ ah_r h b 1 = some (b + 2) ∧ ah_x h (b + 1) 0 40 ∧ ah_x h (b + 2) 0 160
theorem lk_fr {L : List Nat} {h h' : AH} {b : Nat} (K : lk h b) (x : fr L h h') : lk h' b := by
  unfold lk ah_o ah_x at *
  rw [x.1.1, x.1.2.1, x.1.2.2.1]
  exact K
theorem pt_fr {L : List Nat} {h h' : AH} {b : Nat} (K : pt h b) (x : fr L h h') : pt h' b := by
  unfold pt ah_o ah_x at *
  rw [x.1.1, x.1.2.1, x.1.2.2.1]
  exact K
section CSH
variable {h : AH} {b : Nat}
theorem lk_o (K : lk h b) : ah_o h b 4 := K.2.1
theorem lk_r0 (K : lk h b) : ah_r h b 0 = some (b + 1) := (K.2.2.1 0 (by decide)).trans (by rw [Nat.add_assoc])
theorem lk_r1 (K : lk h b) : ah_r h b 1 = some (b + 2) := (K.2.2.1 1 (by decide)).trans (by rw [Nat.add_assoc])
theorem lk_r2 (K : lk h b) : ah_r h b 2 = some (b + 3) := (K.2.2.1 2 (by decide)).trans (by rw [Nat.add_assoc])
theorem lk_r3 (K : lk h b) : ah_r h b 3 = some (b + 4) := (K.2.2.1 3 (by decide)).trans (by rw [Nat.add_assoc])
theorem lk_r4 (K : lk h b) : ah_r h b 4 = some (b + 5) := (K.2.2.1 4 (by decide)).trans (by rw [Nat.add_assoc])
theorem lk_r5 (K : lk h b) : ah_r h b 5 = some (b + 6) := (K.2.2.1 5 (by decide)).trans (by rw [Nat.add_assoc])
theorem lk_r6 (K : lk h b) : ah_r h b 6 = some (b + 7) := (K.2.2.1 6 (by decide)).trans (by rw [Nat.add_assoc])
theorem lk_r7 (K : lk h b) : ah_r h b 7 = some (b + 8) := (K.2.2.1 7 (by decide)).trans (by rw [Nat.add_assoc])
theorem lk_r8 (K : lk h b) : ah_r h b 8 = some (b + 9) := (K.2.2.1 8 (by decide)).trans (by rw [Nat.add_assoc])
theorem lk_r9 (K : lk h b) : ah_r h b 9 = some (b + 10) := (K.2.2.1 9 (by decide)).trans (by rw [Nat.add_assoc])
theorem lk_x0 (K : lk h b) : ah_x h (b + 1) 0 160 := by have z := K.2.2.2.1 0 (by decide); first | exact z | (rw [Nat.add_assoc] at z; exact z)
theorem lk_s0 (K : lk h b) (i : Int32) : ld0 h (b + 1) i ↔ ix i 160 := ld0_x (lk_x0 K) i (by have := K.1; omega)
theorem lk_t0 (K : lk h b) (i : Int32) : st0 h (b + 1) i ↔ ix i 160 := st0_x (lk_x0 K) i
theorem lk_x1 (K : lk h b) : ah_x h (b + 2) 0 160 := by have z := K.2.2.2.1 1 (by decide); first | exact z | (rw [Nat.add_assoc] at z; exact z)
theorem lk_s1 (K : lk h b) (i : Int32) : ld0 h (b + 2) i ↔ ix i 160 := ld0_x (lk_x1 K) i (by have := K.1; omega)
theorem lk_t1 (K : lk h b) (i : Int32) : st0 h (b + 2) i ↔ ix i 160 := st0_x (lk_x1 K) i
theorem lk_x2 (K : lk h b) : ah_x h (b + 3) 0 160 := by have z := K.2.2.2.1 2 (by decide); first | exact z | (rw [Nat.add_assoc] at z; exact z)
theorem lk_s2 (K : lk h b) (i : Int32) : ld0 h (b + 3) i ↔ ix i 160 := ld0_x (lk_x2 K) i (by have := K.1; omega)
theorem lk_t2 (K : lk h b) (i : Int32) : st0 h (b + 3) i ↔ ix i 160 := st0_x (lk_x2 K) i
theorem lk_x3 (K : lk h b) : ah_x h (b + 4) 0 160 := by have z := K.2.2.2.1 3 (by decide); first | exact z | (rw [Nat.add_assoc] at z; exact z)
theorem lk_s3 (K : lk h b) (i : Int32) : ld0 h (b + 4) i ↔ ix i 160 := ld0_x (lk_x3 K) i (by have := K.1; omega)
theorem lk_t3 (K : lk h b) (i : Int32) : st0 h (b + 4) i ↔ ix i 160 := st0_x (lk_x3 K) i
theorem lk_x4 (K : lk h b) : ah_x h (b + 5) 0 160 := by have z := K.2.2.2.1 4 (by decide); first | exact z | (rw [Nat.add_assoc] at z; exact z)
theorem lk_s4 (K : lk h b) (i : Int32) : ld0 h (b + 5) i ↔ ix i 160 := ld0_x (lk_x4 K) i (by have := K.1; omega)
theorem lk_t4 (K : lk h b) (i : Int32) : st0 h (b + 5) i ↔ ix i 160 := st0_x (lk_x4 K) i
theorem lk_x5 (K : lk h b) : ah_x h (b + 6) 0 160 := by have z := K.2.2.2.1 5 (by decide); first | exact z | (rw [Nat.add_assoc] at z; exact z)
theorem lk_s5 (K : lk h b) (i : Int32) : ld0 h (b + 6) i ↔ ix i 160 := ld0_x (lk_x5 K) i (by have := K.1; omega)
theorem lk_t5 (K : lk h b) (i : Int32) : st0 h (b + 6) i ↔ ix i 160 := st0_x (lk_x5 K) i
theorem lk_x6 (K : lk h b) : ah_x h (b + 7) 0 40 := by have z := K.2.2.2.2.1 0 (by decide); first | exact z | (rw [Nat.add_assoc] at z; exact z)
theorem lk_s6 (K : lk h b) (i : Int32) : ld0 h (b + 7) i ↔ ix i 40 := ld0_x (lk_x6 K) i (by have := K.1; omega)
theorem lk_t6 (K : lk h b) (i : Int32) : st0 h (b + 7) i ↔ ix i 40 := st0_x (lk_x6 K) i
theorem lk_x7 (K : lk h b) : ah_x h (b + 8) 0 40 := by have z := K.2.2.2.2.1 1 (by decide); first | exact z | (rw [Nat.add_assoc] at z; exact z)
theorem lk_s7 (K : lk h b) (i : Int32) : ld0 h (b + 8) i ↔ ix i 40 := ld0_x (lk_x7 K) i (by have := K.1; omega)
theorem lk_t7 (K : lk h b) (i : Int32) : st0 h (b + 8) i ↔ ix i 40 := st0_x (lk_x7 K) i
theorem lk_x8 (K : lk h b) : ah_x h (b + 9) 0 40 := by have z := K.2.2.2.2.1 2 (by decide); first | exact z | (rw [Nat.add_assoc] at z; exact z)
theorem lk_s8 (K : lk h b) (i : Int32) : ld0 h (b + 9) i ↔ ix i 40 := ld0_x (lk_x8 K) i (by have := K.1; omega)
theorem lk_t8 (K : lk h b) (i : Int32) : st0 h (b + 9) i ↔ ix i 40 := st0_x (lk_x8 K) i
theorem lk_x9 (K : lk h b) : ah_x h (b + 10) 0 100 := by have z := K.2.2.2.2.2; first | exact z | (rw [Nat.add_assoc] at z; exact z)
theorem lk_s9 (K : lk h b) (i : Int32) : ld0 h (b + 10) i ↔ ix i 100 := ld0_x (lk_x9 K) i (by have := K.1; omega)
theorem lk_t9 (K : lk h b) (i : Int32) : st0 h (b + 10) i ↔ ix i 100 := st0_x (lk_x9 K) i
theorem pt_o (K : pt h b) : ah_o h b 7 := K.2.1
theorem pt_r0 (K : pt h b) : ah_r h b 0 = some (b + 1) := K.2.2.1
theorem pt_r1 (K : pt h b) : ah_r h b 1 = some (b + 2) := K.2.2.2.1
theorem pt_s0 (K : pt h b) (i : Int32) : ld0 h (b + 1) i ↔ ix i 40 := ld0_x K.2.2.2.2.1 i (by have := K.1; omega)
theorem pt_s1 (K : pt h b) (i : Int32) : ld0 h (b + 2) i ↔ ix i 160 := ld0_x K.2.2.2.2.2 i (by have := K.1; omega)
theorem pt_t0 (K : pt h b) (i : Int32) : st0 h (b + 1) i ↔ ix i 40 := st0_x K.2.2.2.2.1 i
theorem pt_t1 (K : pt h b) (i : Int32) : st0 h (b + 2) i ↔ ix i 160 := st0_x K.2.2.2.2.2 i
end CSH
/-- the first n places anew -/
def fl {α : Type} (f : Nat → α) (n : Nat) (v : α) : Nat → α := fun i => if i < n then v else f i
theorem fl_in {α : Type} {f : Nat → α} {n i : Nat} {v : α} (h : i < n) : fl f n v i = v := if_pos h
theorem fl_0 {α : Type} (f : Nat → α) (v : α) : fl f 0 v = f := by
  funext i
  exact if_neg (Nat.not_lt_zero i)
theorem fl_s {α : Type} (f : Nat → α) (n : Nat) (v : α) : u1 (fl f n v) n v = fl f (n + 1) v := by
  funext i
  unfold u1 fl
  by_cases e : i = n
  · rw [if_pos e, if_pos (by omega)]
  · rw [if_neg e]
    by_cases q : i < n
    · rw [if_pos q, if_pos (by omega)]
    · rw [if_neg q, if_neg (by omega)]
theorem wi_e (h : AH) (a : Nat) : ah_wi h a (ah_i h a) = h := by
  unfold ah_wi
  rw [u1_e]
  rfl
theorem wl_e (h : AH) (a : Nat) : ah_wl h a (ah_l h a) = h := by
  unfold ah_wl
  rw [u1_e]
  rfl
theorem si_wi (h : AH) (a k : Nat) (f : Nat → Int32) (v : Int32) : ah_si (ah_wi h a f) a k v = ah_wi h a (u1 f k v) := by
  unfold ah_si
  rw [i_wi_s]
  unfold ah_wi ah_mk ah_n ah_k ah_f ah_r ah_i ah_l ah_q
  simp only [u1_u]
theorem sl_wl (h : AH) (a k : Nat) (f : Nat → Int64) (v : Int64) : ah_sl (ah_wl h a f) a k v = ah_wl h a (u1 f k v) := by
  unfold ah_sl
  rw [l_wl_s]
  unfold ah_wl ah_mk ah_n ah_k ah_f ah_r ah_i ah_l ah_q
  simp only [u1_u]
section FILL
variable {h : AH} {d bc bs : Nat} {Q : Option Value → AH → Prop}
theorem j_fill {a n : Nat} (x : ah_x h a 0 n) (hn : n < 2 ^ 31) (v : Int32) (k : Q none (ah_wi h a (fl (ah_i h a) n v))) : ex_S yJ7_fill_53178 mJ7_fill_53178 d [.ref a, .int v] h bc bs Q := by
  refine J7_fill_53178_e (J7_fill_53178_0 ⟨n, Or.inl (Or.inl x), ?_⟩)
  intro y hy
  subst hy
  refine lp n (fun j h' => h' = ah_wi h a (fl (ah_i h a) j v)) (fun j h' => ex_G mJ7_fill_53178 d 5 [.ref a, .int v, .int (nI j), .int (nI n)] [] h' bc bs Q) ?_ ?_ ?_
  · rw [fl_0, wi_e]
  · rintro j h1 hj e nx
    subst e
    refine J7_fill_53178_5 ?_
    simp (disch := omega) only [forall_eq, Option.some.injEq, exists_eq_left', Option.getD_some, n_sf, k_sf, f_sf_s, f_sf_n, r_sf, i_sf, l_sf, q_sf, ld0_sf, st0_sf, ld1_sf, ld2_sf, ld3_sf, ah_o_sf, in__sf, cp__sf, ah_x_sf, ah_ra_sf, n_si, k_si, f_si, r_si, i_si_s, i_si_n, l_si, q_si, ld0_si, st0_si, ld1_si, ld2_si, ld3_si, ah_o_si, in__si, cp__si, ah_x_si, ah_ra_si, n_sl, k_sl, f_sl, r_sl, i_sl, l_sl_s, l_sl_n, q_sl, ld0_sl, st0_sl, ld1_sl, ld2_sl, ld3_sl, ah_o_sl, in__sl, cp__sl, ah_x_sl, ah_ra_sl, n_wi, k_wi, f_wi, r_wi, i_wi_s, i_wi_n, l_wi, q_wi, ld0_wi, st0_wi, ld1_wi, ld2_wi, ld3_wi, ah_o_wi, in__wi, cp__wi, ah_x_wi, ah_ra_wi, n_wl, k_wl, f_wl, r_wl, i_wl, l_wl_s, l_wl_n, q_wl, ld0_wl, st0_wl, ld1_wl, ld2_wl, ld3_wl, ah_o_wl, in__wl, cp__wl, ah_x_wl, ah_ra_wl, n_sr, k_sr, f_sr, r_sr_s, r_sr_n, i_sr, l_sr, q_sr, n_sq, k_sq, f_sq, r_sq, i_sq, l_sq, q_sq_s, q_sq_n, il_0, il_1, il_2, il_3, il_4, il_5, il_6, il_7, il_8, il_9, il_10, il_11, il_12, il_13, il_14, il_15, il_16, il_17, il_18, il_19, il_20, il_24, il_30, il_31, il_38, il_39, il_40, il_41, il_48, il_50, il_59, il_60, il_63, il_64, il_70, il_80, il_99, il_100, il_120, il_130, il_140, il_144, il_159, il_160, il_162, il_200, il_210, il_240, il_264, il_280, il_281, il_300, il_364, il_368, il_599, il_600, il_601, il_999, il_1610, il_1620, il_1800, il_4000, il_5000, il_7000, il_14500, il_58240, il_1000000, m1_e, nI_1, nI_add, pk_mul, pk_div, pk_sub, nI_clamp, nI_leI, nI_ltI, nI_eq, m1_lt, m1_le, m1_gt, m1_ge, m1_ne, m1_en, ix_nI, im_nI, and1, and3, sh2_, shr2, corner_nI, turned_nI, st0_x x]
    exact ⟨fun q => by omega, fun _ => ⟨hj, nx _ (by rw [si_wi, fl_s])⟩⟩
  · rintro h1 e
    subst e
    refine J7_fill_53178_5 ?_
    simp (disch := omega) only [forall_eq, Option.some.injEq, exists_eq_left', Option.getD_some, n_sf, k_sf, f_sf_s, f_sf_n, r_sf, i_sf, l_sf, q_sf, ld0_sf, st0_sf, ld1_sf, ld2_sf, ld3_sf, ah_o_sf, in__sf, cp__sf, ah_x_sf, ah_ra_sf, n_si, k_si, f_si, r_si, i_si_s, i_si_n, l_si, q_si, ld0_si, st0_si, ld1_si, ld2_si, ld3_si, ah_o_si, in__si, cp__si, ah_x_si, ah_ra_si, n_sl, k_sl, f_sl, r_sl, i_sl, l_sl_s, l_sl_n, q_sl, ld0_sl, st0_sl, ld1_sl, ld2_sl, ld3_sl, ah_o_sl, in__sl, cp__sl, ah_x_sl, ah_ra_sl, n_wi, k_wi, f_wi, r_wi, i_wi_s, i_wi_n, l_wi, q_wi, ld0_wi, st0_wi, ld1_wi, ld2_wi, ld3_wi, ah_o_wi, in__wi, cp__wi, ah_x_wi, ah_ra_wi, n_wl, k_wl, f_wl, r_wl, i_wl, l_wl_s, l_wl_n, q_wl, ld0_wl, st0_wl, ld1_wl, ld2_wl, ld3_wl, ah_o_wl, in__wl, cp__wl, ah_x_wl, ah_ra_wl, n_sr, k_sr, f_sr, r_sr_s, r_sr_n, i_sr, l_sr, q_sr, n_sq, k_sq, f_sq, r_sq, i_sq, l_sq, q_sq_s, q_sq_n, il_0, il_1, il_2, il_3, il_4, il_5, il_6, il_7, il_8, il_9, il_10, il_11, il_12, il_13, il_14, il_15, il_16, il_17, il_18, il_19, il_20, il_24, il_30, il_31, il_38, il_39, il_40, il_41, il_48, il_50, il_59, il_60, il_63, il_64, il_70, il_80, il_99, il_100, il_120, il_130, il_140, il_144, il_159, il_160, il_162, il_200, il_210, il_240, il_264, il_280, il_281, il_300, il_364, il_368, il_599, il_600, il_601, il_999, il_1610, il_1620, il_1800, il_4000, il_5000, il_7000, il_14500, il_58240, il_1000000, m1_e, nI_1, nI_add, pk_mul, pk_div, pk_sub, nI_clamp, nI_leI, nI_ltI, nI_eq, m1_lt, m1_le, m1_gt, m1_ge, m1_ne, m1_en, ix_nI, im_nI, and1, and3, sh2_, shr2, corner_nI, turned_nI, st0_x x]
    exact ⟨fun _ => k, fun q => absurd (Nat.le_refl n) q⟩
theorem j_filll {a n : Nat} (x : ah_x h a 2 n) (hn : n < 2 ^ 31) (v : Int64) (k : Q none (ah_wl h a (fl (ah_l h a) n v))) : ex_S yJ7_fill_d0a16 mJ7_fill_d0a16 d [.ref a, .long v] h bc bs Q := by
  refine J7_fill_d0a16_e (J7_fill_d0a16_0 ⟨n, Or.inr x, ?_⟩)
  intro y hy
  subst hy
  refine lp n (fun j h' => h' = ah_wl h a (fl (ah_l h a) j v)) (fun j h' => ex_G mJ7_fill_d0a16 d 6 [.ref a, .long v, .retAddr 0, .int (nI j), .int (nI n)] [] h' bc bs Q) ?_ ?_ ?_
  · rw [fl_0, wl_e]
  · rintro j h1 hj e nx
    subst e
    refine J7_fill_d0a16_6 ?_
    simp (disch := omega) only [forall_eq, Option.some.injEq, exists_eq_left', Option.getD_some, n_sf, k_sf, f_sf_s, f_sf_n, r_sf, i_sf, l_sf, q_sf, ld0_sf, st0_sf, ld1_sf, ld2_sf, ld3_sf, ah_o_sf, in__sf, cp__sf, ah_x_sf, ah_ra_sf, n_si, k_si, f_si, r_si, i_si_s, i_si_n, l_si, q_si, ld0_si, st0_si, ld1_si, ld2_si, ld3_si, ah_o_si, in__si, cp__si, ah_x_si, ah_ra_si, n_sl, k_sl, f_sl, r_sl, i_sl, l_sl_s, l_sl_n, q_sl, ld0_sl, st0_sl, ld1_sl, ld2_sl, ld3_sl, ah_o_sl, in__sl, cp__sl, ah_x_sl, ah_ra_sl, n_wi, k_wi, f_wi, r_wi, i_wi_s, i_wi_n, l_wi, q_wi, ld0_wi, st0_wi, ld1_wi, ld2_wi, ld3_wi, ah_o_wi, in__wi, cp__wi, ah_x_wi, ah_ra_wi, n_wl, k_wl, f_wl, r_wl, i_wl, l_wl_s, l_wl_n, q_wl, ld0_wl, st0_wl, ld1_wl, ld2_wl, ld3_wl, ah_o_wl, in__wl, cp__wl, ah_x_wl, ah_ra_wl, n_sr, k_sr, f_sr, r_sr_s, r_sr_n, i_sr, l_sr, q_sr, n_sq, k_sq, f_sq, r_sq, i_sq, l_sq, q_sq_s, q_sq_n, il_0, il_1, il_2, il_3, il_4, il_5, il_6, il_7, il_8, il_9, il_10, il_11, il_12, il_13, il_14, il_15, il_16, il_17, il_18, il_19, il_20, il_24, il_30, il_31, il_38, il_39, il_40, il_41, il_48, il_50, il_59, il_60, il_63, il_64, il_70, il_80, il_99, il_100, il_120, il_130, il_140, il_144, il_159, il_160, il_162, il_200, il_210, il_240, il_264, il_280, il_281, il_300, il_364, il_368, il_599, il_600, il_601, il_999, il_1610, il_1620, il_1800, il_4000, il_5000, il_7000, il_14500, il_58240, il_1000000, m1_e, nI_1, nI_add, pk_mul, pk_div, pk_sub, nI_clamp, nI_leI, nI_ltI, nI_eq, m1_lt, m1_le, m1_gt, m1_ge, m1_ne, m1_en, ix_nI, im_nI, and1, and3, sh2_, shr2, corner_nI, turned_nI, ld2_x x]
    exact ⟨fun q => by omega, fun _ => ⟨hj, nx _ (by rw [sl_wl, fl_s])⟩⟩
  · rintro h1 e
    subst e
    refine J7_fill_d0a16_6 ?_
    simp (disch := omega) only [forall_eq, Option.some.injEq, exists_eq_left', Option.getD_some, n_sf, k_sf, f_sf_s, f_sf_n, r_sf, i_sf, l_sf, q_sf, ld0_sf, st0_sf, ld1_sf, ld2_sf, ld3_sf, ah_o_sf, in__sf, cp__sf, ah_x_sf, ah_ra_sf, n_si, k_si, f_si, r_si, i_si_s, i_si_n, l_si, q_si, ld0_si, st0_si, ld1_si, ld2_si, ld3_si, ah_o_si, in__si, cp__si, ah_x_si, ah_ra_si, n_sl, k_sl, f_sl, r_sl, i_sl, l_sl_s, l_sl_n, q_sl, ld0_sl, st0_sl, ld1_sl, ld2_sl, ld3_sl, ah_o_sl, in__sl, cp__sl, ah_x_sl, ah_ra_sl, n_wi, k_wi, f_wi, r_wi, i_wi_s, i_wi_n, l_wi, q_wi, ld0_wi, st0_wi, ld1_wi, ld2_wi, ld3_wi, ah_o_wi, in__wi, cp__wi, ah_x_wi, ah_ra_wi, n_wl, k_wl, f_wl, r_wl, i_wl, l_wl_s, l_wl_n, q_wl, ld0_wl, st0_wl, ld1_wl, ld2_wl, ld3_wl, ah_o_wl, in__wl, cp__wl, ah_x_wl, ah_ra_wl, n_sr, k_sr, f_sr, r_sr_s, r_sr_n, i_sr, l_sr, q_sr, n_sq, k_sq, f_sq, r_sq, i_sq, l_sq, q_sq_s, q_sq_n, il_0, il_1, il_2, il_3, il_4, il_5, il_6, il_7, il_8, il_9, il_10, il_11, il_12, il_13, il_14, il_15, il_16, il_17, il_18, il_19, il_20, il_24, il_30, il_31, il_38, il_39, il_40, il_41, il_48, il_50, il_59, il_60, il_63, il_64, il_70, il_80, il_99, il_100, il_120, il_130, il_140, il_144, il_159, il_160, il_162, il_200, il_210, il_240, il_264, il_280, il_281, il_300, il_364, il_368, il_599, il_600, il_601, il_999, il_1610, il_1620, il_1800, il_4000, il_5000, il_7000, il_14500, il_58240, il_1000000, m1_e, nI_1, nI_add, pk_mul, pk_div, pk_sub, nI_clamp, nI_leI, nI_ltI, nI_eq, m1_lt, m1_le, m1_gt, m1_ge, m1_ne, m1_en, ix_nI, im_nI, and1, and3, sh2_, shr2, corner_nI, turned_nI, ld2_x x]
    exact ⟨fun _ => k, fun q => absurd (Nat.le_refl n) q⟩
/-- the places from p to q anew -/
def flp {α : Type} (f : Nat → α) (p q : Nat) (v : α) : Nat → α := fun i => if p ≤ i ∧ i < q then v else f i
theorem flp_0 {α : Type} (f : Nat → α) (p : Nat) (v : α) : flp f p p v = f := by
  funext i
  exact if_neg (by omega)
theorem flp_s {α : Type} (f : Nat → α) {p q : Nat} (v : α) (h : p ≤ q) : u1 (flp f p q v) q v = flp f p (q + 1) v := by
  funext i
  unfold u1 flp
  by_cases e : i = q
  · rw [if_pos e, if_pos (by omega)]
  · rw [if_neg e]
    by_cases z : p ≤ i ∧ i < q
    · rw [if_pos z, if_pos (by omega)]
    · rw [if_neg z, if_neg (by omega)]
theorem j_fillp {a n p q : Nat} (x : ah_x h a 0 n) (hn : n < 2 ^ 31) (v : Int32) (hp : p ≤ q) (hq : q ≤ n) (k : Q none (ah_wi h a (flp (ah_i h a) p q v))) : ex_S yJ7_fill_fda19 mJ7_fill_fda19 (d + 1) [.ref a, .int (nI p), .int (nI q), .int v] h bc bs Q := by
  refine J7_fill_fda19_e (J7_fill_fda19_0 ⟨n, Or.inl (Or.inl x), ?_⟩)
  refine J7_rangeCheck_23922_e (J7_rangeCheck_23922_0 ?_)
  have e : (Int32.ofNat n) = nI n := rfl
  simp (disch := omega) only [e, il_0, il_1, il_2, il_3, il_4, il_5, il_6, il_7, il_8, il_9, il_10, il_11, il_12, il_13, il_14, il_15, il_16, il_17, il_18, il_19, il_20, il_24, il_30, il_31, il_38, il_39, il_40, il_41, il_48, il_50, il_59, il_60, il_63, il_64, il_70, il_80, il_99, il_100, il_120, il_130, il_140, il_144, il_159, il_160, il_162, il_200, il_210, il_240, il_264, il_280, il_281, il_300, il_364, il_368, il_599, il_600, il_601, il_999, il_1610, il_1620, il_1800, il_4000, il_5000, il_7000, il_14500, il_58240, il_1000000, m1_e, nI_1, nI_add, pk_mul, pk_div, pk_sub, nI_clamp, nI_leI, nI_ltI, nI_eq, m1_lt, m1_le, m1_gt, m1_ge, m1_ne, m1_en, ix_nI, im_nI, and1, and3, sh2_, shr2, corner_nI, turned_nI]
  refine ⟨fun _ => ⟨fun _ => ⟨fun _ => ⟨trivial, ?_⟩, fun z => absurd hq z⟩, fun z => absurd (Nat.zero_le p) z⟩, fun z => absurd hp z⟩
  refine lpf p q (fun j h' => h' = ah_wi h a (flp (ah_i h a) p j v)) (fun j h' => ex_G mJ7_fill_fda19 (d + 1) 10 [.ref a, .retAddr 0, .int (nI q), .int v, .int (nI j)] [] h' bc bs Q) hp ?_ ?_ ?_
  · rw [flp_0, wi_e]
  · rintro j h1 hpj hj e nx
    subst e
    refine J7_fill_fda19_10 ?_
    simp (disch := omega) only [forall_eq, Option.some.injEq, exists_eq_left', Option.getD_some, n_sf, k_sf, f_sf_s, f_sf_n, r_sf, i_sf, l_sf, q_sf, ld0_sf, st0_sf, ld1_sf, ld2_sf, ld3_sf, ah_o_sf, in__sf, cp__sf, ah_x_sf, ah_ra_sf, n_si, k_si, f_si, r_si, i_si_s, i_si_n, l_si, q_si, ld0_si, st0_si, ld1_si, ld2_si, ld3_si, ah_o_si, in__si, cp__si, ah_x_si, ah_ra_si, n_sl, k_sl, f_sl, r_sl, i_sl, l_sl_s, l_sl_n, q_sl, ld0_sl, st0_sl, ld1_sl, ld2_sl, ld3_sl, ah_o_sl, in__sl, cp__sl, ah_x_sl, ah_ra_sl, n_wi, k_wi, f_wi, r_wi, i_wi_s, i_wi_n, l_wi, q_wi, ld0_wi, st0_wi, ld1_wi, ld2_wi, ld3_wi, ah_o_wi, in__wi, cp__wi, ah_x_wi, ah_ra_wi, n_wl, k_wl, f_wl, r_wl, i_wl, l_wl_s, l_wl_n, q_wl, ld0_wl, st0_wl, ld1_wl, ld2_wl, ld3_wl, ah_o_wl, in__wl, cp__wl, ah_x_wl, ah_ra_wl, n_sr, k_sr, f_sr, r_sr_s, r_sr_n, i_sr, l_sr, q_sr, n_sq, k_sq, f_sq, r_sq, i_sq, l_sq, q_sq_s, q_sq_n, il_0, il_1, il_2, il_3, il_4, il_5, il_6, il_7, il_8, il_9, il_10, il_11, il_12, il_13, il_14, il_15, il_16, il_17, il_18, il_19, il_20, il_24, il_30, il_31, il_38, il_39, il_40, il_41, il_48, il_50, il_59, il_60, il_63, il_64, il_70, il_80, il_99, il_100, il_120, il_130, il_140, il_144, il_159, il_160, il_162, il_200, il_210, il_240, il_264, il_280, il_281, il_300, il_364, il_368, il_599, il_600, il_601, il_999, il_1610, il_1620, il_1800, il_4000, il_5000, il_7000, il_14500, il_58240, il_1000000, m1_e, nI_1, nI_add, pk_mul, pk_div, pk_sub, nI_clamp, nI_leI, nI_ltI, nI_eq, m1_lt, m1_le, m1_gt, m1_ge, m1_ne, m1_en, ix_nI, im_nI, and1, and3, sh2_, shr2, corner_nI, turned_nI, st0_x x]
    exact ⟨fun z => by omega, fun _ => ⟨by omega, nx _ (by rw [si_wi, flp_s _ _ hpj])⟩⟩
  · rintro h1 e
    subst e
    refine J7_fill_fda19_10 ?_
    simp (disch := omega) only [forall_eq, Option.some.injEq, exists_eq_left', Option.getD_some, n_sf, k_sf, f_sf_s, f_sf_n, r_sf, i_sf, l_sf, q_sf, ld0_sf, st0_sf, ld1_sf, ld2_sf, ld3_sf, ah_o_sf, in__sf, cp__sf, ah_x_sf, ah_ra_sf, n_si, k_si, f_si, r_si, i_si_s, i_si_n, l_si, q_si, ld0_si, st0_si, ld1_si, ld2_si, ld3_si, ah_o_si, in__si, cp__si, ah_x_si, ah_ra_si, n_sl, k_sl, f_sl, r_sl, i_sl, l_sl_s, l_sl_n, q_sl, ld0_sl, st0_sl, ld1_sl, ld2_sl, ld3_sl, ah_o_sl, in__sl, cp__sl, ah_x_sl, ah_ra_sl, n_wi, k_wi, f_wi, r_wi, i_wi_s, i_wi_n, l_wi, q_wi, ld0_wi, st0_wi, ld1_wi, ld2_wi, ld3_wi, ah_o_wi, in__wi, cp__wi, ah_x_wi, ah_ra_wi, n_wl, k_wl, f_wl, r_wl, i_wl, l_wl_s, l_wl_n, q_wl, ld0_wl, st0_wl, ld1_wl, ld2_wl, ld3_wl, ah_o_wl, in__wl, cp__wl, ah_x_wl, ah_ra_wl, n_sr, k_sr, f_sr, r_sr_s, r_sr_n, i_sr, l_sr, q_sr, n_sq, k_sq, f_sq, r_sq, i_sq, l_sq, q_sq_s, q_sq_n, il_0, il_1, il_2, il_3, il_4, il_5, il_6, il_7, il_8, il_9, il_10, il_11, il_12, il_13, il_14, il_15, il_16, il_17, il_18, il_19, il_20, il_24, il_30, il_31, il_38, il_39, il_40, il_41, il_48, il_50, il_59, il_60, il_63, il_64, il_70, il_80, il_99, il_100, il_120, il_130, il_140, il_144, il_159, il_160, il_162, il_200, il_210, il_240, il_264, il_280, il_281, il_300, il_364, il_368, il_599, il_600, il_601, il_999, il_1610, il_1620, il_1800, il_4000, il_5000, il_7000, il_14500, il_58240, il_1000000, m1_e, nI_1, nI_add, pk_mul, pk_div, pk_sub, nI_clamp, nI_leI, nI_ltI, nI_eq, m1_lt, m1_le, m1_gt, m1_ge, m1_ne, m1_en, ix_nI, im_nI, and1, and3, sh2_, shr2, corner_nI, turned_nI, st0_x x]
    exact ⟨fun _ => k, fun z => absurd (Nat.le_refl q) z⟩
end FILL
