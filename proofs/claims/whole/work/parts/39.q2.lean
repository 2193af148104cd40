/-! open, where, status, parted, linking. -/
section Q3
variable {h hx hy : AH} {d bc bs : Nat} {Q : Option Value → AH → Prop} {W : Nat → Nat} {N : Nat} {B : Nat → Nat} {S : Nat → Int32} {len : Nat}
theorem D_open (x : R0 h W N B S len) (F : fcs h hx) (v pl : Int32) (G : fms (cNo (ah_sf hx 0 17 pl) v) hy) : DONE h (mNo (ah_sf hy 168 15 pl) v) W S len := by
  have y := FC_fcs x.1 F
  have e : ∀ a, a ∉ Mscr → eqc (cNo (ah_sf hx 0 17 pl) v) hy a := G.2.1
  have n1 : ah_n hy = ah_n h := G.1.trans F.1
  refine ⟨W, N, B, ⟨⟨?_, ?_, ?_, ?_⟩, R1_f168 (R1_f168 (R1_fms (R1_f0 (R1_f0 (R1_fcs x.2 F) 17 pl (by omega)) 19 v (by omega)) G) 15 pl (by omega)) 0 v (by omega)⟩, ?_, fun _ _ => rfl, ?_, ?_⟩
  · unfold mNo
    rw [f_sf_n _ _ _ _ _ (by decide), f_sf_n _ _ _ _ _ (by decide), (e 0 (by decide)).2.1, f_sf_s, u1_s]
    unfold cNo
    rw [f_sf_s, u1_s]
  · unfold mNo
    rw [f_sf_n _ _ _ _ _ (by decide), f_sf_n _ _ _ _ _ (by decide), (e 0 (by decide)).2.1, f_sf_s, u1_n _ _ (by decide), f_sf_s, u1_s]
    unfold cNo
    rw [f_sf_s, u1_n _ _ (by decide), f_sf_s, u1_s]
  · unfold mNo
    rw [f_sf_n _ _ _ _ _ (by decide), f_sf_n _ _ _ _ _ (by decide), (e 0 (by decide)).2.1, f_sf_s, u1_n _ _ (by decide), f_sf_s, u1_n _ _ (by decide), G.2.2.2.1 60 (by decide)]
    unfold cNo
    rw [f_sf_s, u1_n _ _ (by decide), f_sf_s, u1_n _ _ (by decide), f_sf_n _ _ _ _ _ (by decide), f_sf_n _ _ _ _ _ (by decide)]
    exact y.2.2.1
  · intro k k1 k2
    show ah_i hy 167 k = ah_i hy 169 k
    rw [(e 167 (by decide)).2.2.1, (e 169 (by decide)).2.2.1]
    exact y.2.2.2 k k1 k2
  · exact FS_trans (hx := ah_sf hy 168 15 pl) n1 (FS_trans n1 (FS_trans (hx := cNo (ah_sf hx 0 17 pl) v) F.1 (FS_trans (hx := ah_sf hx 0 17 pl) F.1 (FS_trans F.1 (FS_fcs F) (FS_f0 17 pl)) (FS_f0 19 v)) (FS_fms G)) (FS_f168 15 pl (by omega))) (FS_f168 0 v (by omega))
  · show ah_n h ≤ ah_n hy
    omega
  · show ah_n hy ≤ _
    omega
theorem st_open (x : R0 h W N B S len) (p : Int32) : ST yX11_open mX11_open yX12_open mX12_open (d + 4) (d + 4) [.int p] h bc bs W S len := by
  have K := x.2.1
  obtain ⟨h24, hN, hN2, hP⟩ := x.2.2.2.2.1
  refine X11_open_e (X11_open_0 ?_)
  by_cases hp : ix p N
  · obtain ⟨p0, hp0, rfl⟩ := ix_of hp (by omega)
    obtain ⟨x1, -, pt1, -, ⟨n, l, y1, y2, y3, y4, y5, y6, -⟩, -⟩ := (hP p0 hp0).2
    have hq := (hP p0 hp0).1
    have hp24 : p0 < 24 := by omega
    simp (disch := omega) only [o0 K, hasPC K, hasP hN h24, hp, r0_4 K, r0_0 K, s1 K, hq, hp24, o7 K, forall_eq, Option.some.injEq, exists_eq_left', Option.getD_some, Value.int.injEq, Value.long.injEq, not_true_eq_false, not_false_eq_true, false_implies, true_implies, forall_const, implies_true, and_true, true_and, Classical.not_not, il_0, il_1, il_2, il_3, il_4, il_5, il_6, il_7, il_8, il_9, il_10, il_11, il_12, il_13, il_14, il_15, il_16, il_17, il_18, il_19, il_20, il_24, il_30, il_31, il_38, il_39, il_40, il_41, il_48, il_50, il_59, il_60, il_63, il_64, il_70, il_80, il_99, il_100, il_120, il_130, il_140, il_144, il_159, il_160, il_162, il_200, il_210, il_240, il_264, il_280, il_281, il_300, il_364, il_368, il_599, il_600, il_601, il_999, il_1610, il_1620, il_1800, il_4000, il_5000, il_7000, il_14500, il_58240, il_1000000, m1_e, nI_1, nI_add, pk_mul, pk_div, pk_sub, nI_clamp, nI_leI, nI_ltI, nI_eq, m1_lt, m1_le, m1_gt, m1_ge, m1_ne, m1_en, ix_nI, im_nI, and1, and3, sh2_, shr2, corner_nI, turned_nI]
    refine c_survey (lk7 K) pt1 (by omega) y6 y1 rfl (fun _ _ => rfl) (fun _ _ => rfl) (fun h1 r pl F a1 a2 a3 a4 a5 a6 => ⟨rfl, ?_⟩)
    have K1 := sp_fr K F
    have Fc := fcs_fr F lkc7
    refine ⟨o0 K1, 7, r0_4 K1, o7 K1, ⟨o0 K1, trivial⟩, ?_⟩
    rw [a4, grV, grH, f_sf_n _ _ _ _ _ (by decide), a3]
    refine X12_open_e (X12_open_0 ?_)
    have Kc : sp (cNo (ah_sf h1 0 17 pl) (nI 0)) := K1
    have q6 : ah_f (cNo (ah_sf h1 0 17 pl) (nI 0)) 168 6 = nI N := by
      unfold cNo
      rw [f_sf_n _ _ _ _ _ (by decide), f_sf_n _ _ _ _ _ (by decide), fr_f F 168 (by decide)]
      exact hN2
    have RR : R1 (cNo (ah_sf h1 0 17 pl) (nI 0)) W N B S len := R1_f0 (R1_f0 (R1_fcs x.2 Fc) 17 pl (by omega)) 19 _ (by omega)
    simp only [o168 Kc, isPC Kc, isP_ q6 h24, hp, forall_eq, Option.some.injEq, exists_eq_left', Option.getD_some, Value.int.injEq, Value.long.injEq, not_true_eq_false, not_false_eq_true, false_implies, true_implies, forall_const, implies_true, and_true, true_and, Classical.not_not, il_0, il_1, il_2, il_3, il_4, il_5, il_6, il_7, il_8, il_9, il_10, il_11, il_12, il_13, il_14, il_15, il_16, il_17, il_18, il_19, il_20, il_24, il_30, il_31, il_38, il_39, il_40, il_41, il_48, il_50, il_59, il_60, il_63, il_64, il_70, il_80, il_99, il_100, il_120, il_130, il_140, il_144, il_159, il_160, il_162, il_200, il_210, il_240, il_264, il_280, il_281, il_300, il_364, il_368, il_599, il_600, il_601, il_999, il_1610, il_1620, il_1800, il_4000, il_5000, il_7000, il_14500, il_58240, il_1000000]
    refine m_open RR hp0 (fun h2 n2 r2 pl2 b1 b0 b2 b3 b4 b5 b6 => ⟨_, rfl, ?_⟩)
    have K2 := b2.2.2.1 Kc
    have E : ∀ a, 216 ≤ a → eqc h (cNo (ah_sf h1 0 17 pl) (nI 0)) a := fun a ha => by
      have e := Fc.2.1 a (cscr_no ha)
      refine ⟨e.1, ?_, e.2.2.1, e.2.2.2.1, e.2.2.2.2.1, e.2.2.2.2.2⟩
      unfold cNo
      rw [f_sf_n _ _ _ _ _ (by omega), f_sf_n _ _ _ _ _ (by omega)]
      exact e.2.1
    rw [(E (B p0) x1).2.1] at b1
    rw [(E (B p0 + 1) (by omega)).2.2.1, (E (B p0 + 2) (by omega)).2.2.1] at b4
    have hnn := b1.symm.trans y1
    have y40 := y6.1
    rw [nI_eq (by omega) (by omega)] at hnn
    subst hnn
    obtain ⟨u1_, u2_⟩ := opn_u b4 a5
    subst u1_
    subst u2_
    refine ⟨o168 K2, ⟨o168 K2, trivial⟩, ?_⟩
    rw [b3, weV, weH]
    exact ⟨rfl, D_open x Fc (nI 0) pl2 b2⟩
  · simp only [o0 K, hasPC K, hasP hN h24, hp, forall_eq, Option.some.injEq, exists_eq_left', Option.getD_some, Value.int.injEq, Value.long.injEq, not_true_eq_false, not_false_eq_true, false_implies, true_implies, forall_const, implies_true, and_true, true_and, Classical.not_not, il_0, il_1, il_2, il_3, il_4, il_5, il_6, il_7, il_8, il_9, il_10, il_11, il_12, il_13, il_14, il_15, il_16, il_17, il_18, il_19, il_20, il_24, il_30, il_31, il_38, il_39, il_40, il_41, il_48, il_50, il_59, il_60, il_63, il_64, il_70, il_80, il_99, il_100, il_120, il_130, il_140, il_144, il_159, il_160, il_162, il_200, il_210, il_240, il_264, il_280, il_281, il_300, il_364, il_368, il_599, il_600, il_601, il_999, il_1610, il_1620, il_1800, il_4000, il_5000, il_7000, il_14500, il_58240, il_1000000]
    refine c_no K 2 (by decide) ⟨_, rfl, ?_⟩
    have Kc : sp (cNo h (-nI 2)) := K
    have q6 : ah_f (cNo h (-nI 2)) 168 6 = nI N := by unfold cNo; rw [f_sf_n _ _ _ _ _ (by decide)]; exact hN2
    refine X12_open_e (X12_open_0 ?_)
    simp only [o168 Kc, isPC Kc, isP_ q6 h24, hp, noC Kc, noV, noH, forall_eq, Option.some.injEq, exists_eq_left', Option.getD_some, Value.int.injEq, Value.long.injEq, not_true_eq_false, not_false_eq_true, false_implies, true_implies, forall_const, implies_true, and_true, true_and, Classical.not_not, il_0, il_1, il_2, il_3, il_4, il_5, il_6, il_7, il_8, il_9, il_10, il_11, il_12, il_13, il_14, il_15, il_16, il_17, il_18, il_19, il_20, il_24, il_30, il_31, il_38, il_39, il_40, il_41, il_48, il_50, il_59, il_60, il_63, il_64, il_70, il_80, il_99, il_100, il_120, il_130, il_140, il_144, il_159, il_160, il_162, il_200, il_210, il_240, il_264, il_280, il_281, il_300, il_364, il_368, il_599, il_600, il_601, il_999, il_1610, il_1620, il_1800, il_4000, il_5000, il_7000, il_14500, il_58240, il_1000000]
    exact D_no x (fcs_refl h) _ (fms_refl _)
theorem D_id (x : R0 h W N B S len) : DONE h h W S len := ⟨W, N, B, x, FS_fcs (fcs_refl h), fun _ _ => rfl, Nat.le_refl _, by omega⟩
theorem st_where (x : R0 h W N B S len) : ST yX11_where mX11_where yX12_where mX12_where d d [] h bc bs W S len :=
  X11_where_e (X11_where_0 ⟨o0 x.2.1, _, rfl, X12_where_e (X12_where_0 ⟨o168 x.2.1, by rw [x.1.2.1], D_id x⟩)⟩)
theorem st_parted (x : R0 h W N B S len) : ST yX11_parted mX11_parted yX12_parted mX12_parted d d [] h bc bs W S len :=
  X11_parted_e (X11_parted_0 ⟨o0 x.2.1, _, rfl, X12_parted_e (X12_parted_0 ⟨o168 x.2.1, by rw [x.1.2.2.1], D_id x⟩)⟩)
theorem st_status (x : R0 h W N B S len) : ST yX11_status mX11_status yX12_status mX12_status d d [] h bc bs W S len :=
  X11_status_e (X11_status_0 ⟨o0 x.2.1, _, rfl, X12_status_e (X12_status_0 ⟨o168 x.2.1, by rw [x.1.1], D_id x⟩)⟩)
end Q3
/-- the sum of the signs where pieces i and j cross -/
noncomputable def lsum (n : Nat) (m : Nat → Nat) (pa : Nat → Int32) (i j : Int32) : Nat → Int32
  | 0 => nI 0
  | c + 1 => lsum n m pa i j c + if ((pa (4 * c) = i ∧ pa (4 * c + 1) = j) ∨ (pa (4 * c) = j ∧ pa (4 * c + 1) = i)) then sgn n m c else nI 0
theorem ls_y {n : Nat} {m : Nat → Nat} {pa : Nat → Int32} {i j : Int32} {c : Nat} (h : (pa (4 * c) = i ∧ pa (4 * c + 1) = j) ∨ (pa (4 * c) = j ∧ pa (4 * c + 1) = i)) : lsum n m pa i j (c + 1) = lsum n m pa i j c + sgn n m c := by
  show lsum n m pa i j c + (if _ then _ else _) = _
  rw [if_pos h]
theorem ls_n {n : Nat} {m : Nat → Nat} {pa : Nat → Int32} {i j : Int32} {c : Nat} (h : ¬ ((pa (4 * c) = i ∧ pa (4 * c + 1) = j) ∨ (pa (4 * c) = j ∧ pa (4 * c + 1) = i))) : lsum n m pa i j (c + 1) = lsum n m pa i j c + nI 0 := by
  show lsum n m pa i j c + (if _ then _ else _) = _
  rw [if_neg h]
theorem i_add0 (a : Int32) : a + nI 0 = a := Int32.add_zero a
theorem ls_congr {n : Nat} {m : Nat → Nat} {pa pb : Nat → Int32} {i j : Int32} {c : Nat} (h : ∀ e, e < 4 * c → pa e = pb e) : lsum n m pa i j c = lsum n m pb i j c := by
  induction c with
  | zero => rfl
  | succ c ih =>
    have e := ih (fun e he => h e (by omega))
    by_cases q : (pa (4 * c) = i ∧ pa (4 * c + 1) = j) ∨ (pa (4 * c) = j ∧ pa (4 * c + 1) = i)
    · rw [ls_y q, ls_y (by rw [← h (4 * c) (by omega), ← h (4 * c + 1) (by omega)]; exact q), e]
    · rw [ls_n q, ls_n (by rw [← h (4 * c) (by omega), ← h (4 * c + 1) (by omega)]; exact q), e]
section LINKING
variable {h : AH} {d bc bs : Nat} {Q : Option Value → AH → Prop} {W : Nat → Nat} {N : Nat} {B : Nat → Nat} {S : Nat → Int32} {len : Nat}
theorem c_linkOf {b n : Nat} {m : Nat → Nat} (L : lk h b) (h40 : n ≤ 40) (hn : ah_f h b 10 = nI n) (hs : ∀ c, c < n → ah_i h (b + 7) c = sgn n m c) (i j : Int32) (k : Q (some (.int (lsum n m (ah_i h (b + 4)) i j n / nI 2))) h) : ex_S yX4_linkOf mX4_linkOf d [.ref b, .int i, .int j] h bc bs Q := by
  refine X4_linkOf_e (X4_linkOf_0 ?_)
  refine lp n (fun c h' => h' = h) (fun c h' => ex_G mX4_linkOf d 5 [.ref b, .int i, .int j, .int (lsum n m (ah_i h (b + 4)) i j c), .int (nI c), .retAddr 0, .retAddr 0] [] h' bc bs Q) rfl ?_ ?_
  · rintro c h1 hc e nx
    subst e
    have yes : ((ah_i h1 (b + 4) (4 * c) = i ∧ ah_i h1 (b + 4) (4 * c + 1) = j) ∨ (ah_i h1 (b + 4) (4 * c) = j ∧ ah_i h1 (b + 4) (4 * c + 1) = i)) → ex_G mX4_linkOf d 62 [.ref b, .int i, .int j, .int (lsum n m (ah_i h1 (b + 4)) i j c), .int (nI c), .retAddr 0, .retAddr 0] [] h1 bc bs Q := fun q => by
      refine X4_linkOf_62 ?_
      have hsc := hs c hc
      simp (disch := omega) only [forall_eq, Option.some.injEq, exists_eq_left', Option.getD_some, Value.int.injEq, Value.long.injEq, n_sf, k_sf, f_sf_s, f_sf_n, r_sf, i_sf, l_sf, q_sf, ld0_sf, st0_sf, ld1_sf, ld2_sf, ld3_sf, ah_o_sf, in__sf, cp__sf, ah_x_sf, ah_ra_sf, n_si, k_si, f_si, r_si, i_si_s, i_si_n, l_si, q_si, ld0_si, st0_si, ld1_si, ld2_si, ld3_si, ah_o_si, in__si, cp__si, ah_x_si, ah_ra_si, n_sl, k_sl, f_sl, r_sl, i_sl, l_sl_s, l_sl_n, q_sl, ld0_sl, st0_sl, ld1_sl, ld2_sl, ld3_sl, ah_o_sl, in__sl, cp__sl, ah_x_sl, ah_ra_sl, n_wi, k_wi, f_wi, r_wi, i_wi_s, i_wi_n, l_wi, q_wi, ld0_wi, st0_wi, ld1_wi, ld2_wi, ld3_wi, ah_o_wi, in__wi, cp__wi, ah_x_wi, ah_ra_wi, n_wl, k_wl, f_wl, r_wl, i_wl, l_wl_s, l_wl_n, q_wl, ld0_wl, st0_wl, ld1_wl, ld2_wl, ld3_wl, ah_o_wl, in__wl, cp__wl, ah_x_wl, ah_ra_wl, n_sr, k_sr, f_sr, r_sr_s, r_sr_n, i_sr, l_sr, q_sr, n_sq, k_sq, f_sq, r_sq, i_sq, l_sq, q_sq_s, q_sq_n, lk_o L, lk_r6 L, lk_s6 L, lk_t6 L, il_0, il_1, il_2, il_3, il_4, il_5, il_6, il_7, il_8, il_9, il_10, il_11, il_12, il_13, il_14, il_15, il_16, il_17, il_18, il_19, il_20, il_24, il_30, il_31, il_38, il_39, il_40, il_41, il_48, il_50, il_59, il_60, il_63, il_64, il_70, il_80, il_99, il_100, il_120, il_130, il_140, il_144, il_159, il_160, il_162, il_200, il_210, il_240, il_264, il_280, il_281, il_300, il_364, il_368, il_599, il_600, il_601, il_999, il_1610, il_1620, il_1800, il_4000, il_5000, il_7000, il_14500, il_58240, il_1000000, m1_e, nI_1, nI_add, pk_mul, pk_div, pk_sub, nI_clamp, nI_leI, nI_ltI, nI_eq, m1_lt, m1_le, m1_gt, m1_ge, m1_ne, m1_en, ix_nI, im_nI, and1, and3, sh2_, shr2, corner_nI, turned_nI, hsc]
      refine ⟨trivial, by omega, ?_⟩
      rw [← ls_y q]
      exact nx _ rfl
    have no : ¬ ((ah_i h1 (b + 4) (4 * c) = i ∧ ah_i h1 (b + 4) (4 * c + 1) = j) ∨ (ah_i h1 (b + 4) (4 * c) = j ∧ ah_i h1 (b + 4) (4 * c + 1) = i)) → ex_G mX4_linkOf d 5 [.ref b, .int i, .int j, .int (lsum n m (ah_i h1 (b + 4)) i j c), .int (nI (c + 1)), .retAddr 0, .retAddr 0] [] h1 bc bs Q := fun q => by
      have := nx h1 rfl
      rw [ls_n q, i_add0] at this
      exact this
    have mid : ¬ (ah_i h1 (b + 4) (4 * c) = i ∧ ah_i h1 (b + 4) (4 * c + 1) = j) → ex_G mX4_linkOf d 50 [.ref b, .int i, .int j, .int (lsum n m (ah_i h1 (b + 4)) i j c), .int (nI c), .int (ah_i h1 (b + 4) (4 * c)), .int (ah_i h1 (b + 4) (4 * c + 1))] [] h1 bc bs Q := fun q => by
      refine X4_linkOf_50 ?_
      simp only [forall_eq, il_1, nI_add]
      refine ⟨fun z => no (fun w => ?_), fun z => ⟨fun w => no (fun v => ?_), fun w => yes (Or.inr ⟨z, w⟩)⟩⟩
      · rcases w with w | w
        · exact q w
        · exact z w.1
      · rcases v with v | v
        · exact q v
        · exact w v.2
    refine X4_linkOf_5 ?_
    simp (disch := omega) only [forall_eq, Option.some.injEq, exists_eq_left', Option.getD_some, Value.int.injEq, Value.long.injEq, n_sf, k_sf, f_sf_s, f_sf_n, r_sf, i_sf, l_sf, q_sf, ld0_sf, st0_sf, ld1_sf, ld2_sf, ld3_sf, ah_o_sf, in__sf, cp__sf, ah_x_sf, ah_ra_sf, n_si, k_si, f_si, r_si, i_si_s, i_si_n, l_si, q_si, ld0_si, st0_si, ld1_si, ld2_si, ld3_si, ah_o_si, in__si, cp__si, ah_x_si, ah_ra_si, n_sl, k_sl, f_sl, r_sl, i_sl, l_sl_s, l_sl_n, q_sl, ld0_sl, st0_sl, ld1_sl, ld2_sl, ld3_sl, ah_o_sl, in__sl, cp__sl, ah_x_sl, ah_ra_sl, n_wi, k_wi, f_wi, r_wi, i_wi_s, i_wi_n, l_wi, q_wi, ld0_wi, st0_wi, ld1_wi, ld2_wi, ld3_wi, ah_o_wi, in__wi, cp__wi, ah_x_wi, ah_ra_wi, n_wl, k_wl, f_wl, r_wl, i_wl, l_wl_s, l_wl_n, q_wl, ld0_wl, st0_wl, ld1_wl, ld2_wl, ld3_wl, ah_o_wl, in__wl, cp__wl, ah_x_wl, ah_ra_wl, n_sr, k_sr, f_sr, r_sr_s, r_sr_n, i_sr, l_sr, q_sr, n_sq, k_sq, f_sq, r_sq, i_sq, l_sq, q_sq_s, q_sq_n, lk_o L, lk_r3 L, lk_s3 L, lk_t3 L, il_0, il_1, il_2, il_3, il_4, il_5, il_6, il_7, il_8, il_9, il_10, il_11, il_12, il_13, il_14, il_15, il_16, il_17, il_18, il_19, il_20, il_24, il_30, il_31, il_38, il_39, il_40, il_41, il_48, il_50, il_59, il_60, il_63, il_64, il_70, il_80, il_99, il_100, il_120, il_130, il_140, il_144, il_159, il_160, il_162, il_200, il_210, il_240, il_264, il_280, il_281, il_300, il_364, il_368, il_599, il_600, il_601, il_999, il_1610, il_1620, il_1800, il_4000, il_5000, il_7000, il_14500, il_58240, il_1000000, m1_e, nI_1, nI_add, pk_mul, pk_div, pk_sub, nI_clamp, nI_leI, nI_ltI, nI_eq, m1_lt, m1_le, m1_gt, m1_ge, m1_ne, m1_en, ix_nI, im_nI, and1, and3, sh2_, shr2, corner_nI, turned_nI, hn]
    exact ⟨trivial, fun z => by omega, fun _ => ⟨by omega, by omega, fun z => mid (fun w => z w.1), fun z => ⟨fun w => yes (Or.inl ⟨z, w⟩), fun w => mid (fun v => w v.2)⟩⟩⟩
  · rintro h1 e
    subst e
    refine X4_linkOf_5 ?_
    simp (disch := omega) only [forall_eq, Option.some.injEq, exists_eq_left', Option.getD_some, Value.int.injEq, Value.long.injEq, n_sf, k_sf, f_sf_s, f_sf_n, r_sf, i_sf, l_sf, q_sf, ld0_sf, st0_sf, ld1_sf, ld2_sf, ld3_sf, ah_o_sf, in__sf, cp__sf, ah_x_sf, ah_ra_sf, n_si, k_si, f_si, r_si, i_si_s, i_si_n, l_si, q_si, ld0_si, st0_si, ld1_si, ld2_si, ld3_si, ah_o_si, in__si, cp__si, ah_x_si, ah_ra_si, n_sl, k_sl, f_sl, r_sl, i_sl, l_sl_s, l_sl_n, q_sl, ld0_sl, st0_sl, ld1_sl, ld2_sl, ld3_sl, ah_o_sl, in__sl, cp__sl, ah_x_sl, ah_ra_sl, n_wi, k_wi, f_wi, r_wi, i_wi_s, i_wi_n, l_wi, q_wi, ld0_wi, st0_wi, ld1_wi, ld2_wi, ld3_wi, ah_o_wi, in__wi, cp__wi, ah_x_wi, ah_ra_wi, n_wl, k_wl, f_wl, r_wl, i_wl, l_wl_s, l_wl_n, q_wl, ld0_wl, st0_wl, ld1_wl, ld2_wl, ld3_wl, ah_o_wl, in__wl, cp__wl, ah_x_wl, ah_ra_wl, n_sr, k_sr, f_sr, r_sr_s, r_sr_n, i_sr, l_sr, q_sr, n_sq, k_sq, f_sq, r_sq, i_sq, l_sq, q_sq_s, q_sq_n, lk_o L, lk_r3 L, lk_s3 L, lk_t3 L, il_0, il_1, il_2, il_3, il_4, il_5, il_6, il_7, il_8, il_9, il_10, il_11, il_12, il_13, il_14, il_15, il_16, il_17, il_18, il_19, il_20, il_24, il_30, il_31, il_38, il_39, il_40, il_41, il_48, il_50, il_59, il_60, il_63, il_64, il_70, il_80, il_99, il_100, il_120, il_130, il_140, il_144, il_159, il_160, il_162, il_200, il_210, il_240, il_264, il_280, il_281, il_300, il_364, il_368, il_599, il_600, il_601, il_999, il_1610, il_1620, il_1800, il_4000, il_5000, il_7000, il_14500, il_58240, il_1000000, m1_e, nI_1, nI_add, pk_mul, pk_div, pk_sub, nI_clamp, nI_leI, nI_ltI, nI_eq, m1_lt, m1_le, m1_gt, m1_ge, m1_ne, m1_en, ix_nI, im_nI, and1, and3, sh2_, shr2, corner_nI, turned_nI, hn]
    exact ⟨trivial, fun _ => k, fun z => (by first | omega | exact absurd trivial z | exact z.elim | exact absurd rfl z)⟩
theorem m_linkloop {p n : Nat} {A m : Nat → Nat} (K : sp h) (P : Pr n A m) (h40 : n ≤ 40) (hp : p < 368) (hn : ah_i h 170 p = nI n) (g : PL n m (ah_i h 181) (ah_i h 182) (nI 1) (nI 0)) (i j : Int32) (k : Q (some (.int (lsum n m (ah_i h 181) i j n / nI 2))) (mNo h (nI 0))) : ex_G mX12_linking (d + 5) 74 [.ref 168, .int (nI p), .int i, .int j, .retAddr 0, .retAddr 0, .int (nI 0), .int (nI 0), .retAddr 0, .retAddr 0] [] h bc bs Q := by
  refine lp n (fun c h' => h' = h) (fun c h' => ex_G mX12_linking (d + 5) 74 [.ref 168, .int (nI p), .int i, .int j, .retAddr 0, .retAddr 0, .int (lsum n m (ah_i h 181) i j c), .int (nI c), .retAddr 0, .retAddr 0] [] h' bc bs Q) rfl ?_ ?_
  · rintro c h1 hc e nx
    subst e
    have yes : ((ah_i h1 181 (4 * c) = i ∧ ah_i h1 181 (4 * c + 1) = j) ∨ (ah_i h1 181 (4 * c) = j ∧ ah_i h1 181 (4 * c + 1) = i)) → ex_G mX12_linking (d + 5) 74 [.ref 168, .int (nI p), .int i, .int j, .retAddr 0, .retAddr 0, .int (lsum n m (ah_i h1 181) i j c + sgn n m c), .int (nI (c + 1)), .retAddr 0, .retAddr 0] [] h1 bc bs Q := fun q => by
      have := nx h1 rfl
      rw [ls_y q] at this
      exact this
    have no : ¬ ((ah_i h1 181 (4 * c) = i ∧ ah_i h1 181 (4 * c + 1) = j) ∨ (ah_i h1 181 (4 * c) = j ∧ ah_i h1 181 (4 * c + 1) = i)) → ex_G mX12_linking (d + 5) 74 [.ref 168, .int (nI p), .int i, .int j, .retAddr 0, .retAddr 0, .int (lsum n m (ah_i h1 181) i j c + nI 0), .int (nI (c + 1)), .retAddr 0, .retAddr 0] [] h1 bc bs Q := fun q => by
      have := nx h1 rfl
      rw [ls_n q] at this
      exact this
    have mid : ¬ (ah_i h1 181 (4 * c) = i ∧ ah_i h1 181 (4 * c + 1) = j) → ex_G mX12_linking (d + 5) 123 [.ref 168, .int (nI p), .int i, .int j, .retAddr 0, .retAddr 0, .retAddr 0, .int (nI c), .int (ah_i h1 181 (4 * c)), .int (ah_i h1 181 (4 * c + 1))] [.int (lsum n m (ah_i h1 181) i j c)] h1 bc bs Q := fun q => by
      refine X12_linking_123 ?_
      simp only [forall_eq, il_0, il_1, nI_add]
      refine ⟨fun z => no (fun w => ?_), fun z => ⟨fun w => no (fun v => ?_), fun w => ⟨o168 K, m_signAt (d := d + 3) K P h40 g hc ⟨_, rfl, yes (Or.inr ⟨z, w⟩)⟩⟩⟩⟩
      · rcases w with w | w
        · exact q w
        · exact z w.1
      · rcases v with v | v
        · exact q v
        · exact w v.2
    refine X12_linking_74 ?_
    simp (disch := omega) only [forall_eq, Option.some.injEq, exists_eq_left', Option.getD_some, Value.int.injEq, Value.long.injEq, n_sf, k_sf, f_sf_s, f_sf_n, r_sf, i_sf, l_sf, q_sf, ld0_sf, st0_sf, ld1_sf, ld2_sf, ld3_sf, ah_o_sf, in__sf, cp__sf, ah_x_sf, ah_ra_sf, n_si, k_si, f_si, r_si, i_si_s, i_si_n, l_si, q_si, ld0_si, st0_si, ld1_si, ld2_si, ld3_si, ah_o_si, in__si, cp__si, ah_x_si, ah_ra_si, n_sl, k_sl, f_sl, r_sl, i_sl, l_sl_s, l_sl_n, q_sl, ld0_sl, st0_sl, ld1_sl, ld2_sl, ld3_sl, ah_o_sl, in__sl, cp__sl, ah_x_sl, ah_ra_sl, n_wi, k_wi, f_wi, r_wi, i_wi_s, i_wi_n, l_wi, q_wi, ld0_wi, st0_wi, ld1_wi, ld2_wi, ld3_wi, ah_o_wi, in__wi, cp__wi, ah_x_wi, ah_ra_wi, n_wl, k_wl, f_wl, r_wl, i_wl, l_wl_s, l_wl_n, q_wl, ld0_wl, st0_wl, ld1_wl, ld2_wl, ld3_wl, ah_o_wl, in__wl, cp__wl, ah_x_wl, ah_ra_wl, n_sr, k_sr, f_sr, r_sr_s, r_sr_n, i_sr, l_sr, q_sr, n_sq, k_sq, f_sq, r_sq, i_sq, l_sq, q_sq_s, q_sq_n, o168 K, r168_2 K, s170 K, t170 K, r168_16 K, s181 K, t181 K, il_0, il_1, il_2, il_3, il_4, il_5, il_6, il_7, il_8, il_9, il_10, il_11, il_12, il_13, il_14, il_15, il_16, il_17, il_18, il_19, il_20, il_24, il_30, il_31, il_38, il_39, il_40, il_41, il_48, il_50, il_59, il_60, il_63, il_64, il_70, il_80, il_99, il_100, il_120, il_130, il_140, il_144, il_159, il_160, il_162, il_200, il_210, il_240, il_264, il_280, il_281, il_300, il_364, il_368, il_599, il_600, il_601, il_999, il_1610, il_1620, il_1800, il_4000, il_5000, il_7000, il_14500, il_58240, il_1000000, m1_e, nI_1, nI_add, pk_mul, pk_div, pk_sub, nI_clamp, nI_leI, nI_ltI, nI_eq, m1_lt, m1_le, m1_gt, m1_ge, m1_ne, m1_en, ix_nI, im_nI, and1, and3, sh2_, shr2, corner_nI, turned_nI, hn]
    exact ⟨trivial, by omega, fun z => by omega, fun _ => ⟨by omega, by omega, fun z => mid (fun w => z w.1), fun z => ⟨fun w => m_signAt (d := d + 3) K P h40 g hc ⟨_, rfl, yes (Or.inl ⟨z, w⟩)⟩, fun w => mid (fun v => w v.2)⟩⟩⟩
  · rintro h1 e
    subst e
    refine X12_linking_74 ?_
    simp (disch := omega) only [forall_eq, Option.some.injEq, exists_eq_left', Option.getD_some, Value.int.injEq, Value.long.injEq, n_sf, k_sf, f_sf_s, f_sf_n, r_sf, i_sf, l_sf, q_sf, ld0_sf, st0_sf, ld1_sf, ld2_sf, ld3_sf, ah_o_sf, in__sf, cp__sf, ah_x_sf, ah_ra_sf, n_si, k_si, f_si, r_si, i_si_s, i_si_n, l_si, q_si, ld0_si, st0_si, ld1_si, ld2_si, ld3_si, ah_o_si, in__si, cp__si, ah_x_si, ah_ra_si, n_sl, k_sl, f_sl, r_sl, i_sl, l_sl_s, l_sl_n, q_sl, ld0_sl, st0_sl, ld1_sl, ld2_sl, ld3_sl, ah_o_sl, in__sl, cp__sl, ah_x_sl, ah_ra_sl, n_wi, k_wi, f_wi, r_wi, i_wi_s, i_wi_n, l_wi, q_wi, ld0_wi, st0_wi, ld1_wi, ld2_wi, ld3_wi, ah_o_wi, in__wi, cp__wi, ah_x_wi, ah_ra_wi, n_wl, k_wl, f_wl, r_wl, i_wl, l_wl_s, l_wl_n, q_wl, ld0_wl, st0_wl, ld1_wl, ld2_wl, ld3_wl, ah_o_wl, in__wl, cp__wl, ah_x_wl, ah_ra_wl, n_sr, k_sr, f_sr, r_sr_s, r_sr_n, i_sr, l_sr, q_sr, n_sq, k_sq, f_sq, r_sq, i_sq, l_sq, q_sq_s, q_sq_n, o168 K, r168_2 K, s170 K, t170 K, r168_16 K, s181 K, t181 K, il_0, il_1, il_2, il_3, il_4, il_5, il_6, il_7, il_8, il_9, il_10, il_11, il_12, il_13, il_14, il_15, il_16, il_17, il_18, il_19, il_20, il_24, il_30, il_31, il_38, il_39, il_40, il_41, il_48, il_50, il_59, il_60, il_63, il_64, il_70, il_80, il_99, il_100, il_120, il_130, il_140, il_144, il_159, il_160, il_162, il_200, il_210, il_240, il_264, il_280, il_281, il_300, il_364, il_368, il_599, il_600, il_601, il_999, il_1610, il_1620, il_1800, il_4000, il_5000, il_7000, il_14500, il_58240, il_1000000, m1_e, nI_1, nI_add, pk_mul, pk_div, pk_sub, nI_clamp, nI_leI, nI_ltI, nI_eq, m1_lt, m1_le, m1_gt, m1_ge, m1_ne, m1_en, ix_nI, im_nI, and1, and3, sh2_, shr2, corner_nI, turned_nI, hn, weC K, weV, weH]
    exact ⟨trivial, by omega, fun _ => ⟨trivial, k⟩, fun z => (by first | omega | exact absurd trivial z | exact z.elim | exact absurd rfl z)⟩
theorem st_linking (x : R0 h W N B S len) (p i j : Int32) : ST yX11_linking mX11_linking yX12_linking mX12_linking (d + 5) (d + 5) [.int p, .int i, .int j] h bc bs W S len := by
  have K := x.2.1
  obtain ⟨h24, hN, hN2, hP⟩ := x.2.2.2.2.1
  refine X11_linking_e (X11_linking_0 ?_)
  by_cases hp : ix p N
  · obtain ⟨p0, hp0, rfl⟩ := ix_of hp (by omega)
    obtain ⟨x1, -, pt1, -, ⟨n, l, y1, y2, y3, y4, y5, y6, -⟩, -⟩ := (hP p0 hp0).2
    simp only [o0 K, hasPC K, hasP hN h24, hp, r0_4 K, forall_eq, Option.some.injEq, exists_eq_left', Option.getD_some, Value.int.injEq, Value.long.injEq, not_true_eq_false, not_false_eq_true, false_implies, true_implies, forall_const, implies_true, and_true, true_and, Classical.not_not, il_0, il_1, il_2, il_3, il_4, il_5, il_6, il_7, il_8, il_9, il_10, il_11, il_12, il_13, il_14, il_15, il_16, il_17, il_18, il_19, il_20, il_24, il_30, il_31, il_38, il_39, il_40, il_41, il_48, il_50, il_59, il_60, il_63, il_64, il_70, il_80, il_99, il_100, il_120, il_130, il_140, il_144, il_159, il_160, il_162, il_200, il_210, il_240, il_264, il_280, il_281, il_300, il_364, il_368, il_599, il_600, il_601, il_999, il_1610, il_1620, il_1800, il_4000, il_5000, il_7000, il_14500, il_58240, il_1000000]
    refine c_isWhole x.2 hp0 (Or.inl rfl) (fun h1 n' r pl hn h40 Lp => ⟨_, rfl, ?_⟩)
    obtain ⟨F, l1, l2, l3, l4, O, LFh⟩ := Lp
    have Fc := fcs_fr F lkc7
    have K1 := sp_fr K F
    by_cases r0 : r = 0
    · subst r0
      have LFh := LFh rfl
      have hd := (opn_0 O).2.2.1
      have P := hd.mt
      have n10 : ¬ (nI 1 : Int32) = nI 0 := by decide
      have n00 : (nI 0 : Int32) ≤ nI 0 := by decide
      have hql := nQ_le n' (mt n' (AN (ah_i h (B p0 + 2))))
      rw [if_pos rfl]
      have a1 : X4_allPieces_V 7 h1 = nI (nQ n' (mt n' (AN (ah_i h (B p0 + 2)))) + l) := by
        unfold X4_allPieces_V
        rw [LFh.2.2.2.2.1, l2, y4, nI_add]
      have a2 : X4_allPieces_C 7 h1 := ⟨o7 K1, trivial⟩
      simp only [n10, o0 K1, r0_4 K1, o7 K1, a1, a2, forall_eq, Option.some.injEq, exists_eq_left', Option.getD_some, Value.int.injEq, Value.long.injEq, not_true_eq_false, not_false_eq_true, false_implies, true_implies, forall_const, implies_true, and_true, true_and, Classical.not_not, il_0, il_1, il_2, il_3, il_4, il_5, il_6, il_7, il_8, il_9, il_10, il_11, il_12, il_13, il_14, il_15, il_16, il_17, il_18, il_19, il_20, il_24, il_30, il_31, il_38, il_39, il_40, il_41, il_48, il_50, il_59, il_60, il_63, il_64, il_70, il_80, il_99, il_100, il_120, il_130, il_140, il_144, il_159, il_160, il_162, il_200, il_210, il_240, il_264, il_280, il_281, il_300, il_364, il_368, il_599, il_600, il_601, il_999, il_1610, il_1620, il_1800, il_4000, il_5000, il_7000, il_14500, il_58240, il_1000000]
      -- the reference: refused
      have bad : (¬ ix i (nQ n' (mt n' (AN (ah_i h (B p0 + 2)))) + l) ∨ ¬ ix j (nQ n' (mt n' (AN (ah_i h (B p0 + 2)))) + l) ∨ i = j) → ex_S yX12_linking mX12_linking (d + 5) [.ref 168, .int (nI p0), .int i, .int j] (cF h1 5) 0 0 (fun r' h2 => r' = some (.int (-nI (10 + 5))) ∧ DONE h h2 W S len) := fun q => by
        have Kc : sp (cF h1 5) := K1
        refine X12_linking_e (X12_linking_0 ⟨o168 Kc, m_refusal (R1_cF x.2 Fc 5) (kc_f Fc 5) hp0 hn h40 O (fun _ h3 G3 G3' z3 g3 => ⟨_, rfl, ?_⟩) (fun w => absurd rfl w)⟩)
        have K3 := G3.2.2.1 Kc
        have hl3 : ah_i h3 171 p0 = nI l := by
          rw [(G3.2.2.2.2 p0 (by omega)).2.1]
          unfold cF
          rw [i_si_n _ _ _ _ _ (by decide), i_sf, fr_i F 171 (by decide)]
          exact y5
        refine ⟨fun _ => ⟨o168 K3, m_piecesOf (d := d + 3) K3 (by omega) z3 h40 g3 P (fun h4 F4 g4 => ⟨_, rfl, ?_⟩)⟩, fun z => absurd n00 z⟩
        have K4 := sp_fr K3 F4
        have hl4 : ah_i h4 171 p0 = nI l := by rw [fr_i F4 171 (by decide)]; exact hl3
        have fin := D_f x Fc (f := 5) (by decide) (by decide) (fms_trans G3 (fms_sc F4 (by decide)))
        simp only [o168 K4, r168_3 K4, s171 K4, ix_nI (show p0 < 2 ^ 31 by omega), nI_clamp (show p0 < 2 ^ 31 by omega), hl4, nI_add, inx (show nQ n' (mt n' (AN (ah_i h (B p0 + 2)))) + l < 2 ^ 31 by omega), meC K4 (show 5 ≤ 9 by decide), meH K4 (show 5 ≤ 9 by decide), meV, forall_eq, Option.some.injEq, exists_eq_left', Option.getD_some, Value.int.injEq, Value.long.injEq, not_true_eq_false, not_false_eq_true, false_implies, true_implies, forall_const, implies_true, and_true, true_and, Classical.not_not, il_0, il_1, il_2, il_3, il_4, il_5, il_6, il_7, il_8, il_9, il_10, il_11, il_12, il_13, il_14, il_15, il_16, il_17, il_18, il_19, il_20, il_24, il_30, il_31, il_38, il_39, il_40, il_41, il_48, il_50, il_59, il_60, il_63, il_64, il_70, il_80, il_99, il_100, il_120, il_130, il_140, il_144, il_159, il_160, il_162, il_200, il_210, il_240, il_264, il_280, il_281, il_300, il_364, il_368, il_599, il_600, il_601, il_999, il_1610, il_1620, il_1800, il_4000, il_5000, il_7000, il_14500, il_58240, il_1000000]
        refine ⟨by omega, fun _ => fin, fun z1 => ⟨fun _ => fin, fun z2 => ⟨fun z3 => ?_, fun _ => fin⟩⟩⟩
        rcases q with q | q | q
        · exact absurd z1 q
        · exact absurd z2 q
        · exact absurd q z3
      rcases ix_cases i (n := nQ n' (mt n' (AN (ah_i h (B p0 + 2)))) + l) (by omega) with q | q | ⟨i0, hi0, q⟩
      · refine ⟨fun _ => c_f K1 5 (by decide) (by decide) ⟨_, rfl, bad (Or.inl q.2)⟩, fun z => absurd q.1 z⟩
      · refine ⟨fun _ => c_f K1 5 (by decide) (by decide) ⟨_, rfl, bad (Or.inl q.2)⟩, fun _ => ⟨fun _ => c_f K1 5 (by decide) (by decide) ⟨_, rfl, bad (Or.inl q.2)⟩, fun z => absurd q.1 z⟩⟩
      · subst q
        refine ⟨fun z => absurd z (nI_pos (by omega)), fun _ => ⟨fun z => absurd z (nI_ge hi0 (by omega)), fun _ => ?_⟩⟩
        rcases ix_cases j (n := nQ n' (mt n' (AN (ah_i h (B p0 + 2)))) + l) (by omega) with q | q | ⟨j0, hj0, q⟩
        · refine ⟨fun _ => c_f K1 5 (by decide) (by decide) ⟨_, rfl, bad (Or.inr (Or.inl q.2))⟩, fun z => absurd q.1 z⟩
        · refine ⟨fun _ => c_f K1 5 (by decide) (by decide) ⟨_, rfl, bad (Or.inr (Or.inl q.2))⟩, fun _ => ⟨fun _ => c_f K1 5 (by decide) (by decide) ⟨_, rfl, bad (Or.inr (Or.inl q.2))⟩, fun z => absurd q.1 z⟩⟩
        · subst q
          refine ⟨fun z => absurd z (nI_pos (by omega)), fun _ => ⟨fun z => absurd z (nI_ge hj0 (by omega)), fun _ => ⟨fun hij => ?_, fun hij => c_f K1 5 (by decide) (by decide) ⟨_, rfl, bad (Or.inr (Or.inr hij))⟩⟩⟩⟩
          refine c_linkOf (lk7 K1) h40 l1 LFh.2.2.2.2.2.2.2.1 (nI i0) (nI j0) ⟨_, rfl, o0 K1, grC K1 _, ?_⟩
          rw [grV, grH]
          have Kc : sp (cNo h1 (nI 0)) := K1
          refine X12_linking_e (X12_linking_0 ⟨o168 Kc, m_refusal (R1_cNo x.2 Fc (nI 0)) (kc_no Fc (nI 0)) hp0 hn h40 O (fun _ h3 G3 G3' z3 g3 => ⟨_, rfl, ?_⟩) (fun w => absurd rfl w)⟩)
          have K3 := G3.2.2.1 Kc
          have hl3 : ah_i h3 171 p0 = nI l := by
            rw [(G3.2.2.2.2 p0 (by omega)).2.1]
            show ah_i h1 171 p0 = nI l
            rw [fr_i F 171 (by decide)]
            exact y5
          refine ⟨fun _ => ⟨o168 K3, m_piecesOf (d := d + 3) K3 (by omega) z3 h40 g3 P (fun h4 F4 g4 => ⟨_, rfl, ?_⟩)⟩, fun z => absurd n00 z⟩
          have K4 := sp_fr K3 F4
          have hl4 : ah_i h4 171 p0 = nI l := by rw [fr_i F4 171 (by decide)]; exact hl3
          have hn4 : ah_i h4 170 p0 = nI n' := by rw [fr_i F4 170 (by decide)]; exact z3
          have i1 : ix (nI i0) (nQ n' (mt n' (AN (ah_i h (B p0 + 2)))) + l) := (ix_nI (by omega)).mpr hi0
          have i2 : ix (nI j0) (nQ n' (mt n' (AN (ah_i h (B p0 + 2)))) + l) := (ix_nI (by omega)).mpr hj0
          simp only [o168 K4, r168_3 K4, s171 K4, ix_nI (show p0 < 2 ^ 31 by omega), nI_clamp (show p0 < 2 ^ 31 by omega), hl4, nI_add, inx (show nQ n' (mt n' (AN (ah_i h (B p0 + 2)))) + l < 2 ^ 31 by omega), i1, i2, hij, forall_eq, Option.some.injEq, exists_eq_left', Option.getD_some, Value.int.injEq, Value.long.injEq, not_true_eq_false, not_false_eq_true, false_implies, true_implies, forall_const, implies_true, and_true, true_and, Classical.not_not, il_0, il_1, il_2, il_3, il_4, il_5, il_6, il_7, il_8, il_9, il_10, il_11, il_12, il_13, il_14, il_15, il_16, il_17, il_18, il_19, il_20, il_24, il_30, il_31, il_38, il_39, il_40, il_41, il_48, il_50, il_59, il_60, il_63, il_64, il_70, il_80, il_99, il_100, il_120, il_130, il_140, il_144, il_159, il_160, il_162, il_200, il_210, il_240, il_264, il_280, il_281, il_300, il_364, il_368, il_599, il_600, il_601, il_999, il_1610, il_1620, il_1800, il_4000, il_5000, il_7000, il_14500, il_58240, il_1000000]
          refine ⟨by omega, m_linkloop K4 P h40 (by omega) hn4 g4 (nI i0) (nI j0) ⟨?_, D_no x Fc (nI 0) (fms_trans G3 (fms_sc F4 (by decide)))⟩⟩
          rw [ls_congr (pb := ah_i h1 (7 + 4)) (fun e he => ?_)]
          obtain ⟨y, hy, py, oy⟩ := pmn_ex P he
          rw [(g4 e he).1 y (by omega) py oy, (LFh.2.2.2.2.2.1 e he).1 y (by omega) py oy]
    · rw [if_neg r0]
      simp only [not_true_eq_false, not_false_eq_true, false_implies, true_implies, forall_const, implies_true, and_true, true_and, Classical.not_not, o0 K1]
      refine c_f K1 3 (by decide) (by decide) ⟨_, rfl, ?_⟩
      refine X12_linking_e (X12_linking_0 ⟨o168 K1, m_refusal (R1_cF x.2 Fc 3) (kc_f Fc 3) hp0 hn h40 O (fun w => absurd w r0) (fun _ h3 G3 => ⟨_, rfl, ?_⟩)⟩)
      have n13 : ¬ (nI 0 : Int32) ≤ -nI 13 := by decide
      simp only [il_0, il_1, il_2, il_3, il_4, il_5, il_6, il_7, il_8, il_9, il_10, il_11, il_12, il_13, il_14, il_15, il_16, il_17, il_18, il_19, il_20, il_24, il_30, il_31, il_38, il_39, il_40, il_41, il_48, il_50, il_59, il_60, il_63, il_64, il_70, il_80, il_99, il_100, il_120, il_130, il_140, il_144, il_159, il_160, il_162, il_200, il_210, il_240, il_264, il_280, il_281, il_300, il_364, il_368, il_599, il_600, il_601, il_999, il_1610, il_1620, il_1800, il_4000, il_5000, il_7000, il_14500, il_58240, il_1000000, n13, not_true_eq_false, not_false_eq_true, false_implies, true_implies, forall_const, implies_true, and_true, true_and, Classical.not_not]
      exact D_f x Fc (by decide) (by decide) G3
  · simp only [o0 K, hasPC K, hasP hN h24, hp, forall_eq, Option.some.injEq, exists_eq_left', Option.getD_some, Value.int.injEq, Value.long.injEq, not_true_eq_false, not_false_eq_true, false_implies, true_implies, forall_const, implies_true, and_true, true_and, Classical.not_not, il_0, il_1, il_2, il_3, il_4, il_5, il_6, il_7, il_8, il_9, il_10, il_11, il_12, il_13, il_14, il_15, il_16, il_17, il_18, il_19, il_20, il_24, il_30, il_31, il_38, il_39, il_40, il_41, il_48, il_50, il_59, il_60, il_63, il_64, il_70, il_80, il_99, il_100, il_120, il_130, il_140, il_144, il_159, il_160, il_162, il_200, il_210, il_240, il_264, il_280, il_281, il_300, il_364, il_368, il_599, il_600, il_601, il_999, il_1610, il_1620, il_1800, il_4000, il_5000, il_7000, il_14500, il_58240, il_1000000]
    refine c_no K 2 (by decide) ⟨_, rfl, ?_⟩
    refine X12_linking_e (X12_linking_0 ⟨o168 K, m_refusal_no (R1_cNo x.2 (fcs_refl h) (-nI 2)) hp ⟨_, rfl, ?_⟩⟩)
    have n2 : ¬ (nI 0 : Int32) ≤ -nI 2 := by decide
    simp only [il_0, il_1, il_2, il_3, il_4, il_5, il_6, il_7, il_8, il_9, il_10, il_11, il_12, il_13, il_14, il_15, il_16, il_17, il_18, il_19, il_20, il_24, il_30, il_31, il_38, il_39, il_40, il_41, il_48, il_50, il_59, il_60, il_63, il_64, il_70, il_80, il_99, il_100, il_120, il_130, il_140, il_144, il_159, il_160, il_162, il_200, il_210, il_240, il_264, il_280, il_281, il_300, il_364, il_368, il_599, il_600, il_601, il_999, il_1610, il_1620, il_1800, il_4000, il_5000, il_7000, il_14500, il_58240, il_1000000, n2, not_true_eq_false, not_false_eq_true, false_implies, true_implies, forall_const, implies_true, and_true, true_and, Classical.not_not]
    exact D_no x (fcs_refl h) _ (fms_refl _)
end LINKING
