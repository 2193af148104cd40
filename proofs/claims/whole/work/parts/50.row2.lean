/-! row: the step. -/
section ROW2
variable {h h' : AH} {d bc bs : Nat} {Q : Option Value → AH → Prop} {W : Nat → Nat} {N : Nat} {B : Nat → Nat} {S : Nat → Int32} {len : Nat}
theorem in14 {v : Int32} (h : AH) : X12_in_V v.toInt64 (-1) 4 h = nI 0 ↔ ¬ rl v := by
  rw [rl_c]
  exact in_rg (v := v) (-1) 4 (by decide) (by decide) h
theorem rl_ask {v : Int32} (a : ¬ v < m1) (b : v ≤ nI 4) : rl v := by
  rw [rl_c]
  rw [Int32.lt_iff_toInt_lt, m1_i] at a
  rw [Int32.le_iff_toInt_le, nI_toInt (by decide)] at b
  omega
theorem rl_no {v : Int32} (h : rl v) : ¬ v < m1 ∧ v ≤ nI 4 := by
  rw [rl_c] at h
  rw [Int32.lt_iff_toInt_lt, m1_i, Int32.le_iff_toInt_le, nI_toInt (by decide)]
  omega
theorem st_row (x : R0 h W N B S len) (p c v : Int32) : ST yX11_row mX11_row yX12_row mX12_row (d + 2) (d + 2) [.int p, .int c, .int v] h bc bs W S len := by
  have K := x.2.1
  obtain ⟨h24, hN, hN2, hP⟩ := x.2.2.2.2.1
  refine X11_row_e (X11_row_0 ?_)
  by_cases hall : ix p N ∧ rl v
  · obtain ⟨hp, hv⟩ := hall
    obtain ⟨p0, hp0, rfl⟩ := ix_of hp (by omega)
    obtain ⟨x1, x2, pt1, ⟨w0, w1, w2⟩, ⟨n, l, y1, y2, y3, y4, y5, y6, y7, y8, y9⟩, hh⟩ := (hP p0 hp0).2
    have hq := (hP p0 hp0).1
    have hp24 : p0 < 24 := by omega
    have hp36 : p0 < 368 := by omega
    have h40 := y6.1
    have bx := pt1.1
    obtain ⟨va, vb⟩ := rl_no hv
    have fgc : X7_forget_C (B p0) h := ⟨pt_o pt1, trivial⟩
    have hcc : X7_hasCrossing_C (B p0) c h := ⟨fun _ => trivial, fun _ => ⟨pt_o pt1, trivial⟩⟩
    have hcv : X7_hasCrossing_V (B p0) c h = nI 0 ↔ ¬ ix c n := hasC y1 h40 c
    by_cases hc : ix c n
    · obtain ⟨c0, hc0, rfl⟩ := ix_of hc (by omega)
      simp (disch := omega) only [o0 K, hasPC K, hasP hN h24, hp, r0_0 K, s1 K, hq, hp24, pt_o pt1, va, vb, hcc, hcv, hc, fgc, forall_eq, Option.some.injEq, exists_eq_left', Option.getD_some, Value.int.injEq, Value.long.injEq, not_true_eq_false, not_false_eq_true, false_implies, true_implies, forall_const, implies_true, and_true, true_and, Classical.not_not, il_0, il_1, il_2, il_3, il_4, il_5, il_6, il_7, il_8, il_9, il_10, il_11, il_12, il_13, il_14, il_15, il_16, il_17, il_18, il_19, il_20, il_24, il_30, il_31, il_38, il_39, il_40, il_41, il_48, il_50, il_59, il_60, il_63, il_64, il_70, il_80, il_99, il_100, il_120, il_130, il_140, il_144, il_159, il_160, il_162, il_200, il_210, il_240, il_264, il_280, il_281, il_300, il_364, il_368, il_599, il_600, il_601, il_999, il_1610, il_1620, il_1800, il_4000, il_5000, il_7000, il_14500, il_58240, il_1000000, m1_e, nI_1, nI_add, pk_mul, pk_div, pk_sub, nI_clamp, nI_leI, nI_ltI, nI_eq, m1_lt, m1_le, m1_gt, m1_ge, m1_ne, m1_en, ix_nI, im_nI, and1, and3, sh2_, shr2, corner_nI, turned_nI]
      have F0 : fr [B p0, B p0 + 1, B p0 + 2] h (X7_forget_H (B p0) h) := fr_sf (fr_refl _ h) (by simp only [List.mem_cons, List.not_mem_nil, or_false, true_or, or_true, not_true_eq_false] <;> omega)
      have g0 : ah_f (X7_forget_H (B p0) h) (B p0) = u1 (ah_f h (B p0)) 5 (nI 0) := f_sf_s _ _ _ _
      have gi0 : ah_i (X7_forget_H (B p0) h) = ah_i h := i_sf _ _ _ _
      have p0t : pt (X7_forget_H (B p0) h) (B p0) := pt_fr pt1 F0
      generalize X7_forget_H (B p0) h = ha at F0 g0 gi0 p0t ⊢
      refine ⟨pt_o p0t, c_resize p0t (by omega) hv (fun hb F1 i1 i2 => ⟨rfl, ?_⟩)⟩
      have F2 : fr [B p0, B p0 + 1, B p0 + 2] h hb := fr_trans F0 (fr_mono F1 (fun a ha => by simp only [List.mem_cons, List.not_mem_nil, or_false] at ha ⊢; omega))
      have Kb := sp_fr K F2
      have g1 : ah_f hb (B p0) = u1 (ah_f h (B p0)) 5 (nI 0) := by rw [fr_f F1 (B p0) (by simp only [List.mem_cons, List.not_mem_nil, or_false, true_or, or_true, not_true_eq_false] <;> omega)]; exact g0
      rw [gi0] at i1 i2
      refine ⟨o0 Kb, ⟨o0 Kb, trivial⟩, ?_⟩
      rw [grV, grH]
      have fb : fp p0 W h (cNo hb (nI 0)) := fp_trans (fp_fr F2 (fun a ha => by
        simp only [List.mem_cons, List.not_mem_nil, or_false] at ha
        rcases ha with e | e | e
        · rw [e]; exact ⟨x1, by omega, w0⟩
        · rw [e]; exact ⟨by omega, by omega, w1⟩
        · rw [e]; exact ⟨by omega, by omega, w2⟩)) (fp_f0 (by omega))
      have K1 := fb.2.2.2.2.1 K
      have q6 := (fb.2.2.2.1 6 (by decide) (by decide) (by decide) (by decide)).trans hN2
      have m170 : ah_i (cNo hb (nI 0)) 170 p0 = nI n := by rw [i_cNo, fr_i F2 170 (by simp only [List.mem_cons, List.not_mem_nil, or_false, true_or, or_true, not_true_eq_false] <;> omega)]; exact y2
      have m172 : ah_i (cNo hb (nI 0)) 172 (40 * p0 + c0) = ah_i h (B p0 + 1) c0 := by rw [i_cNo, fr_i F2 172 (by simp only [List.mem_cons, List.not_mem_nil, or_false, true_or, or_true, not_true_eq_false] <;> omega)]; exact y7 c0 hc0
      have hv2 : X12_in_V (Int32.toInt64 v) (-nI 1).toInt64 4 (cNo hb (nI 0)) = nI 0 ↔ ¬ rl v := in14 _
      have hv3 : X12_in_V (Int32.toInt64 v) (-1) 4 (cNo hb (nI 0)) = nI 0 ↔ ¬ rl v := in14 _
      have hin : X12_in_V (Int32.toInt64 (nI c0)) 0 (Int32.toInt64 (nI (n - 1))) (cNo hb (nI 0)) = nI 0 ↔ ¬ ix (nI c0) n := by
        rw [← pk_sub (show 1 ≤ n by omega)]
        exact inx (by omega) _
      have hu : rl (ah_i h (B p0 + 1) c0) := y6.2.1 c0 hc0
      refine X12_row_e (X12_row_0 ?_)
      simp (disch := omega) only [o168 K1, isPC K1, isP_ q6 h24, hp, hv3, hv, r168_2 K1, s170 K1, m170, hin, hc, r168_4 K1, s172 K1, m172, hp36, forall_eq, Option.some.injEq, exists_eq_left', Option.getD_some, Value.int.injEq, Value.long.injEq, not_true_eq_false, not_false_eq_true, false_implies, true_implies, forall_const, implies_true, and_true, true_and, Classical.not_not, il_0, il_1, il_2, il_3, il_4, il_5, il_6, il_7, il_8, il_9, il_10, il_11, il_12, il_13, il_14, il_15, il_16, il_17, il_18, il_19, il_20, il_24, il_30, il_31, il_38, il_39, il_40, il_41, il_48, il_50, il_59, il_60, il_63, il_64, il_70, il_80, il_99, il_100, il_120, il_130, il_140, il_144, il_159, il_160, il_162, il_200, il_210, il_240, il_264, il_280, il_281, il_300, il_364, il_368, il_599, il_600, il_601, il_999, il_1610, il_1620, il_1800, il_4000, il_5000, il_7000, il_14500, il_58240, il_1000000, m1_e, nI_1, nI_add, pk_mul, pk_div, pk_sub, nI_clamp, nI_leI, nI_ltI, nI_eq, m1_lt, m1_le, m1_gt, m1_ge, m1_ne, m1_en, ix_nI, im_nI, and1, and3, sh2_, shr2, corner_nI, turned_nI]
      refine ⟨by omega, m_rowloop K1 hp24 (by omega) hv hu (fun hd F3 j0 => ⟨rfl, ?_⟩)⟩
      have fc : fp p0 W (cNo hb (nI 0)) (mNo (ah_si (ah_si hd 172 (40 * p0 + c0) v) 174 p0 (nI 0)) (nI 0)) := by
        refine fp_trans (fp_trans (fp_trans (fp_slots (h1 := hd) (fr_mono F3 (by decide)) (fun s _ hs _ => ⟨by rw [fr_i F3 170 (by decide)], by rw [fr_i F3 171 (by decide)], fun _ _ => by rw [fr_i F3 172 (by decide)], fun e he => ?_⟩)) (fp_172 (by omega) (by omega))) fp_174) (fp_f168 (by omega))
        rw [j0]
        exact if_neg (by omega)
      have jb : ∀ a, a ≠ 172 → a ≠ 173 → a ≠ 174 → ah_i (mNo (ah_si (ah_si hd 172 (40 * p0 + c0) v) 174 p0 (nI 0)) (nI 0)) a = ah_i hb a := fun a a1 a2 a3 => by rw [i_mNo, i_si_n _ _ _ _ _ a3, i_si_n _ _ _ _ _ a1, fr_i F3 a (by simp only [List.mem_cons, List.not_mem_nil, or_false, true_or, or_true, not_true_eq_false] <;> omega), i_cNo]
      have jf : ah_f (mNo (ah_si (ah_si hd 172 (40 * p0 + c0) v) 174 p0 (nI 0)) (nI 0)) (B p0) = u1 (ah_f h (B p0)) 5 (nI 0) := by
        unfold mNo
        rw [f_sf_n _ _ _ _ _ (by omega), f_si, f_si, fr_f F3 (B p0) (by simp only [List.mem_cons, List.not_mem_nil, or_false, true_or, or_true, not_true_eq_false] <;> omega)]
        unfold cNo
        rw [f_sf_n _ _ _ _ _ (by omega), g1]
      have j2 : ah_i (mNo (ah_si (ah_si hd 172 (40 * p0 + c0) v) 174 p0 (nI 0)) (nI 0)) 172 = u1 (ah_i h 172) (40 * p0 + c0) v := by rw [i_mNo, i_si_n _ _ _ _ _ (by decide), i_si_s, fr_i F3 172 (by decide), i_cNo, fr_i F2 172 (by simp only [List.mem_cons, List.not_mem_nil, or_false, true_or, or_true, not_true_eq_false] <;> omega)]
      have j3 : ah_i (mNo (ah_si (ah_si hd 172 (40 * p0 + c0) v) 174 p0 (nI 0)) (nI 0)) 173 = rw4 (ah_i h 173) (160 * p0 + 4 * c0) (ah_i h (B p0 + 1) c0).toNatClampNeg v.toNatClampNeg 4 := by rw [i_mNo, i_si_n _ _ _ _ _ (by decide), i_si_n _ _ _ _ _ (by decide), j0, i_cNo, fr_i F2 173 (by simp only [List.mem_cons, List.not_mem_nil, or_false, true_or, or_true, not_true_eq_false] <;> omega)]
      have j4 : ah_i (mNo (ah_si (ah_si hd 172 (40 * p0 + c0) v) 174 p0 (nI 0)) (nI 0)) (B p0 + 1) = u1 (ah_i h (B p0 + 1)) c0 v := by rw [jb _ (by omega) (by omega) (by omega), i1]
      have j5 : ah_i (mNo (ah_si (ah_si hd 172 (40 * p0 + c0) v) 174 p0 (nI 0)) (nI 0)) (B p0 + 2) = flp (ah_i h (B p0 + 2)) (4 * c0 + v.toNatClampNeg) (4 * c0 + 4) m1 := by rw [jb _ (by omega) (by omega) (by omega), i2]
      have nn : ah_n (mNo (ah_si (ah_si hd 172 (40 * p0 + c0) v) 174 p0 (nI 0)) (nI 0)) = ah_n h := by rw [n_mNo, n_si, n_si, F3.1.1, n_cNo]; exact F2.1.1
      have kk : ah_k (mNo (ah_si (ah_si hd 172 (40 * p0 + c0) v) 174 p0 (nI 0)) (nI 0)) = ah_k h := by rw [k_mNo, k_si, k_si, F3.1.2.1, k_cNo]; exact F2.1.2.1
      have rr : ah_r (mNo (ah_si (ah_si hd 172 (40 * p0 + c0) v) 174 p0 (nI 0)) (nI 0)) = ah_r h := by rw [r_mNo, r_si, r_si, F3.1.2.2.1, r_cNo]; exact F2.1.2.2.1
      have z0 : ∀ k, ah_f (mNo (ah_si (ah_si hd 172 (40 * p0 + c0) v) 174 p0 (nI 0)) (nI 0)) 0 k = u1 (ah_f h 0) 19 (nI 0) k := fun k => by
        unfold mNo
        rw [f_sf_n _ _ _ _ _ (by decide), f_si, f_si, fr_f F3 0 (by decide)]
        unfold cNo
        rw [f_sf_s, fr_f F2 0 (by simp only [List.mem_cons, List.not_mem_nil, or_false, true_or, or_true, not_true_eq_false] <;> omega)]
      have z1 : ∀ k, ah_f (mNo (ah_si (ah_si hd 172 (40 * p0 + c0) v) 174 p0 (nI 0)) (nI 0)) 168 k = u1 (ah_f h 168) 0 (nI 0) k := fun k => by
        unfold mNo
        rw [f_sf_s, f_si, f_si, fr_f F3 168 (by decide)]
        unfold cNo
        rw [f_sf_n _ _ _ _ _ (by decide), fr_f F2 168 (by simp only [List.mem_cons, List.not_mem_nil, or_false, true_or, or_true, not_true_eq_false] <;> omega)]
      have z8 : ah_i (mNo (ah_si (ah_si hd 172 (40 * p0 + c0) v) 174 p0 (nI 0)) (nI 0)) 174 p0 = nI 0 := by rw [i_mNo, i_si_s, u1_s]
      have FF := fp_trans fb fc
      have b170 := jb 170 (by decide) (by decide) (by decide)
      have b171 := jb 171 (by decide) (by decide) (by decide)
      have b167 := jb 167 (by decide) (by decide) (by decide)
      have b169 := jb 169 (by decide) (by decide) (by decide)
      generalize mNo (ah_si (ah_si hd 172 (40 * p0 + c0) v) 174 p0 (nI 0)) (nI 0) = hz at jf j2 j3 j4 j5 nn kk rr z0 z1 z8 FF b170 b171 b167 b169 ⊢
      obtain ⟨v4, vl⟩ := rl_le hv
      refine D_edit x hp0 FF nn kk rr z0 z1 (by rw [b167]; exact fr_i F2 167 (by simp only [List.mem_cons, List.not_mem_nil, or_false, true_or, or_true, not_true_eq_false] <;> omega)) (by rw [b169]; exact fr_i F2 169 (by simp only [List.mem_cons, List.not_mem_nil, or_false, true_or, or_true, not_true_eq_false] <;> omega)) (by rw [jf, u1_s]) (by rw [jf, u1_n _ _ (by decide)]) z8 ⟨n, l, ?_, ?_, y3, ?_, ?_, ?_, ?_, ?_, ?_⟩
      · rw [jf, u1_n _ _ (by decide)]; exact y1
      · rw [b170, fr_i F2 170 (by simp only [List.mem_cons, List.not_mem_nil, or_false, true_or, or_true, not_true_eq_false] <;> omega)]; exact y2
      · rw [jf, u1_n _ _ (by decide)]; exact y4
      · rw [b171, fr_i F2 171 (by simp only [List.mem_cons, List.not_mem_nil, or_false, true_or, or_true, not_true_eq_false] <;> omega)]; exact y5
      · rw [j4, j5]
        refine ⟨h40, fun c' hc' => ?_, fun e he => ?_⟩
        · by_cases z : c' = c0
          · rw [z, u1_s]; exact hv
          · rw [u1_n _ _ z]; exact y6.2.1 c' hc'
        · unfold flp
          split
          · exact Or.inl rfl
          · exact y6.2.2 e he
      · rw [j4, j2]
        intro c' hc'
        by_cases z : c' = c0
        · rw [z, u1_s, u1_s]
        · rw [u1_n _ _ z, u1_n _ _ (by omega)]; exact y7 c' hc'
      · rw [j5, j3]
        intro e he
        unfold rw4 flp
        by_cases q1 : 4 * c0 + v.toNatClampNeg ≤ e ∧ e < 4 * c0 + 4
        · rw [if_pos q1, if_pos (by omega)]
        · rw [if_neg q1]
          by_cases q2 : 160 * p0 + 4 * c0 ≤ 160 * p0 + e ∧ 160 * p0 + e < 160 * p0 + 4 * c0 + 4 ∧ ((ah_i h (B p0 + 1) c0).toNatClampNeg ≤ 160 * p0 + e - (160 * p0 + 4 * c0) ∨ v.toNatClampNeg ≤ 160 * p0 + e - (160 * p0 + 4 * c0))
          · rw [if_pos q2]
            have e4 : e = 4 * c0 + (e - 4 * c0) := by omega
            rw [e4, y9 c0 (e - 4 * c0) hc0 (by omega) (fun l' hl' el => ?_)]
            have : (ah_i h (B p0 + 1) c0).toNatClampNeg = l' := by rw [el, nI_clamp (by omega)]
            omega
          · rw [if_neg q2]; exact y8 e he
      · rw [j4, j5]
        intro c' i' hc' hi' hl'
        unfold flp
        by_cases z : c' = c0
        · subst z
          rw [u1_s] at hl'
          rw [if_pos]
          refine ⟨?_, by omega⟩
          rcases hv with q | ⟨k, hk, q⟩
          · have : v.toNatClampNeg = 0 := by rw [q]; decide
            omega
          · have := hl' k hk q
            have : v.toNatClampNeg = k := by rw [q, nI_clamp (by omega)]
            omega
        · rw [u1_n _ _ z] at hl'
          rw [if_neg (by omega)]
          exact y9 c' i' hc' hi' hl'
    · simp (disch := omega) only [o0 K, hasPC K, hasP hN h24, hp, r0_0 K, s1 K, hq, hp24, pt_o pt1, va, vb, hcc, hcv, hc, forall_eq, Option.some.injEq, exists_eq_left', Option.getD_some, Value.int.injEq, Value.long.injEq, not_true_eq_false, not_false_eq_true, false_implies, true_implies, forall_const, implies_true, and_true, true_and, Classical.not_not, il_0, il_1, il_2, il_3, il_4, il_5, il_6, il_7, il_8, il_9, il_10, il_11, il_12, il_13, il_14, il_15, il_16, il_17, il_18, il_19, il_20, il_24, il_30, il_31, il_38, il_39, il_40, il_41, il_48, il_50, il_59, il_60, il_63, il_64, il_70, il_80, il_99, il_100, il_120, il_130, il_140, il_144, il_159, il_160, il_162, il_200, il_210, il_240, il_264, il_280, il_281, il_300, il_364, il_368, il_599, il_600, il_601, il_999, il_1610, il_1620, il_1800, il_4000, il_5000, il_7000, il_14500, il_58240, il_1000000, m1_e, nI_1, nI_add, pk_mul, pk_div, pk_sub, nI_clamp, nI_leI, nI_ltI, nI_eq, m1_lt, m1_le, m1_gt, m1_ge, m1_ne, m1_en, ix_nI, im_nI, and1, and3, sh2_, shr2, corner_nI, turned_nI]
      refine c_f K 2 (by decide) (by decide) ⟨_, rfl, ?_⟩
      have Kc : sp (cF h 2) := K
      have q6 : ah_f (cF h 2) 168 6 = nI N := by unfold cF; rw [f_si, f_sf_n _ _ _ _ _ (by decide)]; exact hN2
      have m170 : ah_i (cF h 2) 170 p0 = nI n := by unfold cF; rw [i_si_n _ _ _ _ _ (by decide), i_sf]; exact y2
      have hv3 : X12_in_V (Int32.toInt64 v) (-1) 4 (cF h 2) = nI 0 ↔ ¬ rl v := in14 _
      have hin : X12_in_V (Int32.toInt64 c) 0 (Int32.toInt64 (nI n - nI 1)) (cF h 2) = nI 0 ↔ ¬ ix c n := inx (by omega) _
      refine X12_row_e (X12_row_0 ?_)
      simp (disch := omega) only [o168 Kc, isPC Kc, isP_ q6 h24, hp, hv3, hv, r168_2 Kc, s170 Kc, m170, hin, hc, hp36, meC Kc, meH Kc, meV, forall_eq, Option.some.injEq, exists_eq_left', Option.getD_some, Value.int.injEq, Value.long.injEq, not_true_eq_false, not_false_eq_true, false_implies, true_implies, forall_const, implies_true, and_true, true_and, Classical.not_not, il_0, il_1, il_2, il_3, il_4, il_5, il_6, il_7, il_8, il_9, il_10, il_11, il_12, il_13, il_14, il_15, il_16, il_17, il_18, il_19, il_20, il_24, il_30, il_31, il_38, il_39, il_40, il_41, il_48, il_50, il_59, il_60, il_63, il_64, il_70, il_80, il_99, il_100, il_120, il_130, il_140, il_144, il_159, il_160, il_162, il_200, il_210, il_240, il_264, il_280, il_281, il_300, il_364, il_368, il_599, il_600, il_601, il_999, il_1610, il_1620, il_1800, il_4000, il_5000, il_7000, il_14500, il_58240, il_1000000, m1_e, nI_1, nI_add, pk_mul, pk_div, pk_sub, nI_clamp, nI_leI, nI_ltI, nI_eq, m1_lt, m1_le, m1_gt, m1_ge, m1_ne, m1_en, ix_nI, im_nI, and1, and3, sh2_, shr2, corner_nI, turned_nI]
      exact D_f x (fcs_refl h) (by decide) (by decide) (fms_refl _)
  · have Kc : sp (cNo h (-nI 2)) := K
    have q6 : ah_f (cNo h (-nI 2)) 168 6 = nI N := by unfold cNo; rw [f_sf_n _ _ _ _ _ (by decide)]; exact hN2
    have fin := D_no x (fcs_refl h) (-nI 2) (fms_refl _)
    have hv3 : X12_in_V (Int32.toInt64 v) (-1) 4 (cNo h (-nI 2)) = nI 0 ↔ ¬ rl v := in14 _
    have mm : ex_S yX12_row mX12_row (d + 2) [.ref 168, .int p, .int c, .int v] (cNo h (-nI 2)) 0 0 (fun r' h2 => r' = some (.int (-nI 2)) ∧ DONE h h2 W S len) := by
      refine X12_row_e (X12_row_0 ?_)
      simp only [o168 Kc, isPC Kc, isP_ q6 h24, hv3, noC Kc, noV, noH, forall_eq, Option.some.injEq, exists_eq_left', Option.getD_some, Value.int.injEq, Value.long.injEq, not_true_eq_false, not_false_eq_true, false_implies, true_implies, forall_const, implies_true, and_true, true_and, Classical.not_not, il_0, il_1, il_2, il_3, il_4, il_5, il_6, il_7, il_8, il_9, il_10, il_11, il_12, il_13, il_14, il_15, il_16, il_17, il_18, il_19, il_20, il_24, il_30, il_31, il_38, il_39, il_40, il_41, il_48, il_50, il_59, il_60, il_63, il_64, il_70, il_80, il_99, il_100, il_120, il_130, il_140, il_144, il_159, il_160, il_162, il_200, il_210, il_240, il_264, il_280, il_281, il_300, il_364, il_368, il_599, il_600, il_601, il_999, il_1610, il_1620, il_1800, il_4000, il_5000, il_7000, il_14500, il_58240, il_1000000]
      exact ⟨fun _ => fin, fun b1 => ⟨fun b2 => absurd ⟨b1, b2⟩ hall, fun _ => fin⟩⟩
    have cc_ : ex_S yX11_refuse mX11_refuse (d + 1) [.ref 0, .int (-nI 2)] h 0 0 (fun r h4 => ∃ x5, r = some (.int x5) ∧ ex_S yX12_row mX12_row (d + 2) [.ref 168, .int p, .int c, .int v] h4 0 0 (fun r' h2 => r' = some (.int x5) ∧ DONE h h2 W S len)) := c_no K 2 (by decide) ⟨_, rfl, mm⟩
    simp only [o0 K, hasPC K, hasP hN h24, m1_e, forall_eq, Option.some.injEq, exists_eq_left', Option.getD_some, Value.int.injEq, Value.long.injEq, not_true_eq_false, not_false_eq_true, false_implies, true_implies, forall_const, implies_true, and_true, true_and, Classical.not_not, il_0, il_1, il_2, il_3, il_4, il_5, il_6, il_7, il_8, il_9, il_10, il_11, il_12, il_13, il_14, il_15, il_16, il_17, il_18, il_19, il_20, il_24, il_30, il_31, il_38, il_39, il_40, il_41, il_48, il_50, il_59, il_60, il_63, il_64, il_70, il_80, il_99, il_100, il_120, il_130, il_140, il_144, il_159, il_160, il_162, il_200, il_210, il_240, il_264, il_280, il_281, il_300, il_364, il_368, il_599, il_600, il_601, il_999, il_1610, il_1620, il_1800, il_4000, il_5000, il_7000, il_14500, il_58240, il_1000000]
    exact ⟨fun _ => cc_, fun b1 => ⟨fun _ => cc_, fun b2 => ⟨fun b3 => absurd ⟨b1, rl_ask b2 b3⟩ hall, fun _ => cc_⟩⟩⟩
end ROW2
