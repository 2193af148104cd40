/-! tells: the step. -/
section TELLS2
variable {h ha hb hz : AH} {d bc bs : Nat} {Q : Option Value → AH → Prop} {W : Nat → Nat} {N : Nat} {B : Nat → Nat} {S : Nat → Int32} {len : Nat}
theorem D_bod (x : R0 h W N B S len) (F1 : fr [5, 6] h hb) {t : Nat} (ht : t ≤ 3) (g1 : ah_f hb 5 1 = nI t) (F2 : fr [168, 198] (cNo hb (nI 0)) hz) (m0 : ah_f hz 168 = u1 (ah_f (cNo hb (nI 0)) 168) 38 (nI t)) (hv : ∀ i, i < t → ah_i hb 6 i = ah_i hz 198 i) : DONE h (mNo hz (nI 0)) W S len := by
  have T1 := x.2.2.2.2.2.2.1.1
  have F3 : fr [0, 5, 6] h (cNo hb (nI 0)) := fr_sf (fr_mono F1 (by decide)) (by decide)
  have F4 : fr [168, 198] (cNo hb (nI 0)) (mNo hz (nI 0)) := fr_sf F2 (by decide)
  have g5 : ah_f (cNo hb (nI 0)) 5 1 = nI t := by unfold cNo; rw [f_sf_n _ _ _ _ _ (by decide)]; exact g1
  have g6 : ah_i (cNo hb (nI 0)) 6 = ah_i hb 6 := by rw [i_cNo]
  have g0 : ∀ k, k ≠ 19 → ah_f (cNo hb (nI 0)) 0 k = ah_f h 0 k := fun k hk => by
    unfold cNo
    rw [f_sf_s, u1_n _ _ hk, fr_f F1 0 (by decide)]
  have g9 : ah_f (cNo hb (nI 0)) 0 19 = nI 0 := by
    unfold cNo
    rw [f_sf_s, u1_s]
  have z0 : ah_f (mNo hz (nI 0)) 168 0 = nI 0 := by
    unfold mNo
    rw [f_sf_s, u1_s]
  have z8 : ah_f (mNo hz (nI 0)) 168 38 = nI t := by
    unfold mNo
    rw [f_sf_s, u1_n _ _ (by decide), m0, u1_s]
  have zk : ∀ k, k ≠ 0 → k ≠ 38 → ah_f (mNo hz (nI 0)) 168 k = ah_f (cNo hb (nI 0)) 168 k := fun k k1 k2 => by
    unfold mNo
    rw [f_sf_s, u1_n _ _ k1, m0, u1_n _ _ k2]
  have z198 : ah_i (mNo hz (nI 0)) 198 = ah_i hz 198 := by rw [i_mNo]
  rw [← z198, ← g6] at hv
  generalize mNo hz (nI 0) = hq at F4 z0 z8 zk z198 hv ⊢
  generalize cNo hb (nI 0) = hp at F3 F4 g5 g6 g0 g9 zk hv
  refine D_nums x (fun a hn => eqc_trans (eqc_fr F3 (fun q => hn ((by decide : ∀ a, a ∈ [0, 5, 6] → a ∈ Tscr) a q))) (eqc_fr F4 (fun q => hn ((by decide : ∀ a, a ∈ [168, 198] → a ∈ Tscr) a q)))) (F4.1.2.2.1.trans F3.1.2.2.1) (F4.1.2.2.2.trans F3.1.2.2.2) (F4.1.2.1.trans F3.1.2.1) (F4.1.1.trans F3.1.1) (fun k hk => ?_) (fun k k1 k2 k3 => ?_) ?_ (NU_eq T1 ?_ ?_ ?_ ?_) ⟨t, ht, ?_, z8, fun i hi => ?_⟩
  · rw [fr_f F4 0 (by decide)]
    exact g0 k hk
  · rw [zk k k1 k3, fr_f F3 168 (by decide)]
  · rw [fr_f F4 0 (by decide), g9, z0]
  · rw [fr_f F4 3 (by decide), fr_f F3 3 (by decide)]
  · rw [zk 29 (by decide) (by decide), fr_f F3 168 (by decide)]
  · rw [fr_i F4 4 (by decide), fr_i F3 4 (by decide)]
  · rw [fr_i F4 191 (by decide), fr_i F3 191 (by decide)]
  · rw [fr_f F4 5 (by decide)]
    exact g5
  · rw [fr_i F4 6 (by decide)]
    exact hv i hi
theorem st_tells (x : R0 h W N B S len) (p c : Int32) : ST yX11_tells mX11_tells yX12_tells mX12_tells (d + 3) (d + 2) [.int p, .int c] h bc bs W S len := by
  have K := x.2.1
  obtain ⟨M, h60, hM, hM2, hMv⟩ := x.2.2.2.2.2.1
  refine X11_tells_e (X11_tells_0 ?_)
  by_cases hall : ix p M ∧ ix c 6
  · obtain ⟨hp, hc⟩ := hall
    obtain ⟨p0, hp0, rfl⟩ := ix_of hp (by omega)
    obtain ⟨w, hw, rfl⟩ := ix_of hc (by decide)
    obtain ⟨a, kd, y1, y2, y3, y4, y5, y6, y7, y8, y9, y10⟩ := hMv p0 hp0
    have hp60 : p0 < 60 := by omega
    have ec : X6_empty_C 5 h := ⟨o5 K, trivial⟩
    have F0 : fr [5, 6] h (X6_empty_H 5 h) := fr_sf (fr_refl _ h) (by decide)
    have g0 : ah_f (X6_empty_H 5 h) 5 1 = nI 0 := by
      unfold X6_empty_H
      rw [f_sf_s, u1_s]
      rfl
    have w5 : w ≤ 5 := by omega
    simp (disch := omega) only [o0 K, hasMC K, hasM hM h60, hp, r0_3 K, o5 K, ec, w5, Nat.not_lt_zero, forall_eq, Option.some.injEq, exists_eq_left', Option.getD_some, Value.int.injEq, Value.long.injEq, not_true_eq_false, not_false_eq_true, false_implies, true_implies, forall_const, implies_true, and_true, true_and, Classical.not_not, il_0, il_1, il_2, il_3, il_4, il_5, il_6, il_7, il_8, il_9, il_10, il_11, il_12, il_13, il_14, il_15, il_16, il_17, il_18, il_19, il_20, il_24, il_30, il_31, il_38, il_39, il_40, il_41, il_48, il_50, il_59, il_60, il_63, il_64, il_70, il_80, il_99, il_100, il_120, il_130, il_140, il_144, il_159, il_160, il_162, il_200, il_210, il_240, il_264, il_280, il_281, il_300, il_364, il_368, il_599, il_600, il_601, il_999, il_1610, il_1620, il_1800, il_4000, il_5000, il_7000, il_14500, il_58240, il_1000000, m1_e, nI_1, nI_add, pk_mul, pk_div, pk_sub, nI_clamp, nI_leI, nI_ltI, nI_eq, m1_lt, m1_le, m1_gt, m1_ge, m1_ne, m1_en, ix_nI, im_nI, and1, and3, sh2_, shr2, corner_nI, turned_nI]
    generalize X6_empty_H 5 h = ha at F0 g0 ⊢
    have Ka := sp_fr K F0
    have qa : ah_q ha 2 p0 = some a := by rw [F0.1.2.2.2]; exact y1
    have oa : ah_o ha a 5 := by unfold ah_o; rw [F0.1.1, F0.1.2.1]; exact y3
    have fa : ah_f ha a = ah_f h a := fr_f F0 a (by simp only [List.mem_cons, List.not_mem_nil, or_false, true_or, or_true, not_true_eq_false] <;> omega)
    simp (disch := omega) only [o0 Ka, r0_1 Ka, s2 Ka, hp60, qa, oa, r0_3 Ka, forall_eq, Option.some.injEq, exists_eq_left', Option.getD_some, Value.int.injEq, Value.long.injEq, not_true_eq_false, not_false_eq_true, false_implies, true_implies, forall_const, implies_true, and_true, true_and, Classical.not_not, il_0, il_1, il_2, il_3, il_4, il_5, il_6, il_7, il_8, il_9, il_10, il_11, il_12, il_13, il_14, il_15, il_16, il_17, il_18, il_19, il_20, il_24, il_30, il_31, il_38, il_39, il_40, il_41, il_48, il_50, il_59, il_60, il_63, il_64, il_70, il_80, il_99, il_100, il_120, il_130, il_140, il_144, il_159, il_160, il_162, il_200, il_210, il_240, il_264, il_280, il_281, il_300, il_364, il_368, il_599, il_600, il_601, il_999, il_1610, il_1620, il_1800, il_4000, il_5000, il_7000, il_14500, il_58240, il_1000000, m1_e, nI_1, nI_add, pk_mul, pk_div, pk_sub, nI_clamp, nI_leI, nI_ltI, nI_eq, m1_lt, m1_le, m1_gt, m1_ge, m1_ne, m1_en, ix_nI, im_nI, and1, and3, sh2_, shr2, corner_nI, turned_nI]
    -- the reference, from any heap that the class leaves
    have q35 : ∀ hb, fr [5, 6] h hb → ah_f (cNo hb (nI 0)) 168 35 = nI M := fun hb F => by unfold cNo; rw [f_sf_n _ _ _ _ _ (by decide), fr_f F 168 (by decide)]; exact hM2
    have q197 : ∀ hb, fr [5, 6] h hb → ah_i (cNo hb (nI 0)) 197 = ah_i h 197 := fun hb F => by rw [i_cNo, fr_i F 197 (by decide)]
    have hv : ∀ g : AH, X12_in_V (Int32.toInt64 (nI w)) 0 5 g = nI 0 ↔ ¬ ix (nI w) 6 := fun g => in05 g
    by_cases w4 : 4 ≤ w
    · refine ⟨fun _ => c_growth Ka oa y5 (by rw [fa]; exact y6) g0 (fun hb F1 b1 b2 => ⟨_, rfl, ?_⟩), fun z => absurd w4 z⟩
      have F2 := fr_trans F0 F1
      have Kb := sp_fr K F2
      have Kc : sp (cNo hb (nI 0)) := sp_fr Kb (fr_sf (L := [0]) (fr_refl _ hb) (by decide))
      have fin : ∀ v : Int32, v = (if w = 4 then gv kd else if gv kd = nI 0 then nI 1 else nI 0) → ex_S yX12_tells mX12_tells (d + 2) [.ref 168, .int (nI p0), .int (nI w)] (cNo hb (nI 0)) 0 0 (fun r' h2 => r' = some (.int v) ∧ DONE h h2 W S len) := fun v ev => by
        have m197 : ah_i (cNo hb (nI 0)) 197 (4 * p0) = nI kd := by rw [q197 hb F2]; exact y7
        have q6 := q35 hb F2
        have Fm : fr [168, 198] (cNo hb (nI 0)) (ah_sf (cNo hb (nI 0)) 168 38 (nI 0)) := fr_sf (fr_refl _ _) (by decide)
        have mf : ah_f (ah_sf (cNo hb (nI 0)) 168 38 (nI 0)) 168 = u1 (ah_f (cNo hb (nI 0)) 168) 38 (nI 0) := f_sf_s _ _ _ _
        have mi : ah_i (ah_sf (cNo hb (nI 0)) 168 38 (nI 0)) 197 (4 * p0) = nI kd := by rw [i_sf]; exact m197
        refine X12_tells_e (X12_tells_0 ?_)
        simp only [o168 Kc, isMC Kc, isM_ q6 h60, hp, hv, hc, forall_eq, not_true_eq_false, not_false_eq_true, false_implies, true_implies, forall_const, implies_true, and_true, true_and, Classical.not_not, il_0, il_1, il_2, il_3, il_4, il_5, il_6, il_7, il_8, il_9, il_10, il_11, il_12, il_13, il_14, il_15, il_16, il_17, il_18, il_19, il_20, il_24, il_30, il_31, il_38, il_39, il_40, il_41, il_48, il_50, il_59, il_60, il_63, il_64, il_70, il_80, il_99, il_100, il_120, il_130, il_140, il_144, il_159, il_160, il_162, il_200, il_210, il_240, il_264, il_280, il_281, il_300, il_364, il_368, il_599, il_600, il_601, il_999, il_1610, il_1620, il_1800, il_4000, il_5000, il_7000, il_14500, il_58240, il_1000000]
        have Kd := sp_fr Kc Fm
        generalize ah_sf (cNo hb (nI 0)) 168 38 (nI 0) = hd at Fm mf mi Kd ⊢
        simp (disch := omega) only [r168_36 Kd, s197 Kd, mi, w4, forall_eq, Option.some.injEq, exists_eq_left', Option.getD_some, Value.int.injEq, Value.long.injEq, not_true_eq_false, not_false_eq_true, false_implies, true_implies, forall_const, implies_true, and_true, true_and, Classical.not_not, il_0, il_1, il_2, il_3, il_4, il_5, il_6, il_7, il_8, il_9, il_10, il_11, il_12, il_13, il_14, il_15, il_16, il_17, il_18, il_19, il_20, il_24, il_30, il_31, il_38, il_39, il_40, il_41, il_48, il_50, il_59, il_60, il_63, il_64, il_70, il_80, il_99, il_100, il_120, il_130, il_140, il_144, il_159, il_160, il_162, il_200, il_210, il_240, il_264, il_280, il_281, il_300, il_364, il_368, il_599, il_600, il_601, il_999, il_1610, il_1620, il_1800, il_4000, il_5000, il_7000, il_14500, il_58240, il_1000000, m1_e, nI_1, nI_add, pk_mul, pk_div, pk_sub, nI_clamp, nI_leI, nI_ltI, nI_eq, m1_lt, m1_le, m1_gt, m1_ge, m1_ne, m1_en, ix_nI, im_nI, and1, and3, sh2_, shr2, corner_nI, turned_nI]
        refine ⟨by omega, m_moreOf Kd y5 (by rw [mf, u1_s]) (fun he F3 e1 e2 => ⟨_, rfl, ?_⟩)⟩
        have Ke := sp_fr Kd F3
        have hbn : bn kd ≤ 3 := by unfold bn; split <;> omega
        have done := D_bod x F2 hbn b1 (fr_trans Fm F3) (by rw [e1, mf, u1_u]) (fun i hi => by rw [b2 i hi, e2 i hi])
        refine ⟨fun z => ⟨fun u => ⟨o168 Ke, weC Ke _, ?_⟩, fun u => ⟨o168 Ke, weC Ke _, ?_⟩⟩, fun z => ⟨o168 Ke, weC Ke _, ?_⟩⟩
        · rw [weV, weH]
          exact ⟨by rw [ev, if_neg z, if_neg u], done⟩
        · rw [weV, weH]
          exact ⟨by rw [ev, if_neg z, if_pos u], done⟩
        · rw [weV, weH]
          exact ⟨by rw [ev, if_pos z], done⟩
      refine ⟨fun z => ⟨fun u => ⟨o0 Kb, grC Kb _, ?_⟩, fun u => ⟨o0 Kb, grC Kb _, ?_⟩⟩, fun z => ⟨o0 Kb, grC Kb _, ?_⟩⟩
      · rw [grV, grH]
        exact fin _ (by rw [if_neg z, if_neg u])
      · rw [grV, grH]
        exact fin _ (by rw [if_neg z, if_pos u])
      · rw [grV, grH]
        exact fin _ (by rw [if_pos z])
    · refine ⟨fun z => absurd z w4, fun _ => ?_⟩
      have Kc : sp (cNo ha (nI 0)) := sp_fr Ka (fr_sf (L := [0]) (fr_refl _ ha) (by decide))
      have fin : ∀ v : Int32, v = ah_i h 197 (4 * p0 + w) → ex_S yX12_tells mX12_tells (d + 2) [.ref 168, .int (nI p0), .int (nI w)] (cNo ha (nI 0)) 0 0 (fun r' h2 => r' = some (.int v) ∧ DONE h h2 W S len) := fun v ev => by
        have q6 := q35 ha F0
        have Fm : fr [168, 198] (cNo ha (nI 0)) (ah_sf (cNo ha (nI 0)) 168 38 (nI 0)) := fr_sf (fr_refl _ _) (by decide)
        have mf : ah_f (ah_sf (cNo ha (nI 0)) 168 38 (nI 0)) 168 = u1 (ah_f (cNo ha (nI 0)) 168) 38 (nI 0) := f_sf_s _ _ _ _
        have mi : ah_i (ah_sf (cNo ha (nI 0)) 168 38 (nI 0)) 197 (4 * p0 + w) = v := by rw [i_sf, q197 ha F0, ev]
        refine X12_tells_e (X12_tells_0 ?_)
        simp only [o168 Kc, isMC Kc, isM_ q6 h60, hp, hv, hc, forall_eq, not_true_eq_false, not_false_eq_true, false_implies, true_implies, forall_const, implies_true, and_true, true_and, Classical.not_not, il_0, il_1, il_2, il_3, il_4, il_5, il_6, il_7, il_8, il_9, il_10, il_11, il_12, il_13, il_14, il_15, il_16, il_17, il_18, il_19, il_20, il_24, il_30, il_31, il_38, il_39, il_40, il_41, il_48, il_50, il_59, il_60, il_63, il_64, il_70, il_80, il_99, il_100, il_120, il_130, il_140, il_144, il_159, il_160, il_162, il_200, il_210, il_240, il_264, il_280, il_281, il_300, il_364, il_368, il_599, il_600, il_601, il_999, il_1610, il_1620, il_1800, il_4000, il_5000, il_7000, il_14500, il_58240, il_1000000]
        have Kd := sp_fr Kc Fm
        generalize ah_sf (cNo ha (nI 0)) 168 38 (nI 0) = hd at Fm mf mi Kd ⊢
        simp (disch := omega) only [r168_36 Kd, s197 Kd, mi, w4, weC Kd, weV, weH, forall_eq, Option.some.injEq, exists_eq_left', Option.getD_some, Value.int.injEq, Value.long.injEq, not_true_eq_false, not_false_eq_true, false_implies, true_implies, forall_const, implies_true, and_true, true_and, Classical.not_not, il_0, il_1, il_2, il_3, il_4, il_5, il_6, il_7, il_8, il_9, il_10, il_11, il_12, il_13, il_14, il_15, il_16, il_17, il_18, il_19, il_20, il_24, il_30, il_31, il_38, il_39, il_40, il_41, il_48, il_50, il_59, il_60, il_63, il_64, il_70, il_80, il_99, il_100, il_120, il_130, il_140, il_144, il_159, il_160, il_162, il_200, il_210, il_240, il_264, il_280, il_281, il_300, il_364, il_368, il_599, il_600, il_601, il_999, il_1610, il_1620, il_1800, il_4000, il_5000, il_7000, il_14500, il_58240, il_1000000, m1_e, nI_1, nI_add, pk_mul, pk_div, pk_sub, nI_clamp, nI_leI, nI_ltI, nI_eq, m1_lt, m1_le, m1_gt, m1_ge, m1_ne, m1_en, ix_nI, im_nI, and1, and3, sh2_, shr2, corner_nI, turned_nI]
        exact ⟨by omega, D_bod x F0 (t := 0) (by decide) g0 Fm mf (fun i hi => absurd hi (Nat.not_lt_zero i))⟩
      refine X5_number_e (X5_number_0 ⟨fun e => ⟨oa, _, rfl, o0 Ka, grC Ka _, ?_⟩, fun e => ⟨oa, _, rfl, o0 Ka, grC Ka _, ?_⟩, fun e => ⟨oa, _, rfl, o0 Ka, grC Ka _, ?_⟩, fun e1 e2 e3 => ⟨oa, _, rfl, o0 Ka, grC Ka _, ?_⟩⟩)
      · have ew : w = 0 := (nI_eq (by omega) (by decide)).mp e
        rw [grV, grH]
        exact fin _ (by rw [fa, y6, ew, Nat.add_zero, y7])
      · have ew : w = 1 := (nI_eq (by omega) (by decide)).mp e
        rw [grV, grH]
        exact fin _ (by rw [fa, ew, y8])
      · have ew : w = 2 := (nI_eq (by omega) (by decide)).mp e
        rw [grV, grH]
        exact fin _ (by rw [fa, ew, y9])
      · have ew : w = 3 := by
          have a1 : w ≠ 0 := fun z => e1 (by rw [z]; rfl)
          have a2 : w ≠ 1 := fun z => e2 (by rw [z]; rfl)
          have a3 : w ≠ 2 := fun z => e3 (by rw [z]; rfl)
          omega
        rw [grV, grH]
        exact fin _ (by rw [fa, ew, y10])
  · have Kc : sp (cNo h (-nI 2)) := sp_fr K (fr_sf (L := [0]) (fr_refl _ h) (by decide))
    have q6 : ah_f (cNo h (-nI 2)) 168 35 = nI M := by unfold cNo; rw [f_sf_n _ _ _ _ _ (by decide)]; exact hM2
    have fin := D_no x (fcs_refl h) (-nI 2) (fms_refl _)
    have hv : X12_in_V (Int32.toInt64 c) 0 5 (cNo h (-nI 2)) = nI 0 ↔ ¬ ix c 6 := in05 _
    have mm : ex_S yX12_tells mX12_tells (d + 2) [.ref 168, .int p, .int c] (cNo h (-nI 2)) 0 0 (fun r' h2 => r' = some (.int (-nI 2)) ∧ DONE h h2 W S len) := by
      refine X12_tells_e (X12_tells_0 ?_)
      simp only [o168 Kc, isMC Kc, isM_ q6 h60, hv, noC Kc, noV, noH, forall_eq, not_true_eq_false, not_false_eq_true, false_implies, true_implies, forall_const, implies_true, and_true, true_and, Classical.not_not, il_0, il_1, il_2, il_3, il_4, il_5, il_6, il_7, il_8, il_9, il_10, il_11, il_12, il_13, il_14, il_15, il_16, il_17, il_18, il_19, il_20, il_24, il_30, il_31, il_38, il_39, il_40, il_41, il_48, il_50, il_59, il_60, il_63, il_64, il_70, il_80, il_99, il_100, il_120, il_130, il_140, il_144, il_159, il_160, il_162, il_200, il_210, il_240, il_264, il_280, il_281, il_300, il_364, il_368, il_599, il_600, il_601, il_999, il_1610, il_1620, il_1800, il_4000, il_5000, il_7000, il_14500, il_58240, il_1000000]
      exact ⟨fun _ => fin, fun b1 => ⟨fun b2 => absurd ⟨b1, b2⟩ hall, fun _ => fin⟩⟩
    have cc_ : ex_S yX11_refuse mX11_refuse (d + 2) [.ref 0, .int (-nI 2)] h 0 0 (fun r h4 => ∃ x5, r = some (.int x5) ∧ ex_S yX12_tells mX12_tells (d + 2) [.ref 168, .int p, .int c] h4 0 0 (fun r' h2 => r' = some (.int x5) ∧ DONE h h2 W S len)) := c_no K 2 (by decide) ⟨_, rfl, mm⟩
    have six : ¬ c < nI 0 → c ≤ nI 5 → ix c 6 := fun a1 b1 => by
      rw [Int32.lt_iff_toInt_lt, nI_toInt (by decide)] at a1
      rw [Int32.le_iff_toInt_le, nI_toInt (by decide)] at b1
      exact ⟨by omega, by omega⟩
    simp only [o0 K, hasMC K, hasM hM h60, forall_eq, Option.some.injEq, exists_eq_left', Option.getD_some, Value.int.injEq, Value.long.injEq, not_true_eq_false, not_false_eq_true, false_implies, true_implies, forall_const, implies_true, and_true, true_and, Classical.not_not, il_0, il_1, il_2, il_3, il_4, il_5, il_6, il_7, il_8, il_9, il_10, il_11, il_12, il_13, il_14, il_15, il_16, il_17, il_18, il_19, il_20, il_24, il_30, il_31, il_38, il_39, il_40, il_41, il_48, il_50, il_59, il_60, il_63, il_64, il_70, il_80, il_99, il_100, il_120, il_130, il_140, il_144, il_159, il_160, il_162, il_200, il_210, il_240, il_264, il_280, il_281, il_300, il_364, il_368, il_599, il_600, il_601, il_999, il_1610, il_1620, il_1800, il_4000, il_5000, il_7000, il_14500, il_58240, il_1000000]
    exact ⟨fun _ => cc_, fun b1 => ⟨fun _ => cc_, fun b2 => ⟨fun b3 => absurd ⟨b1, six b2 b3⟩ hall, fun _ => cc_⟩⟩⟩
end TELLS2
