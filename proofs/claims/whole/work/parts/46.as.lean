/-! as; loose. -/
section AS
variable {h h' : AH} {d bc bs : Nat} {Q : Option Value → AH → Prop} {W : Nat → Nat} {N : Nat} {B : Nat → Nat} {S : Nat → Int32} {len : Nat}
theorem par_of (o : OLD h S len) {kd : Nat} (hk : kd < 6) : ah_i h 10000002 kd = if kd % 2 = 1 then nI (kd - 1) else m1 := by
  obtain ⟨-, -, -, p0, p1, p2, p3, p4, p5⟩ := o
  rcases (show kd = 0 ∨ kd = 1 ∨ kd = 2 ∨ kd = 3 ∨ kd = 4 ∨ kd = 5 by omega) with e | e | e | e | e | e <;> subst e
  · exact p0
  · exact p1
  · exact p2
  · exact p3
  · exact p4
  · exact p5
theorem hasM {p : Int32} {M : Nat} (hM : ah_f h 0 16 = nI M) (h60 : M ≤ 60) : X11_hasMove_V 0 p h = nI 0 ↔ ¬ ix p M := by
  unfold X11_hasMove_V
  rw [hM]
  exact ask_ix (by omega)
theorem hasMC (K : sp h) (p : Int32) : X11_hasMove_C 0 p h := ⟨fun _ => trivial, fun _ => ⟨o0 K, trivial⟩⟩
theorem isM_ {p : Int32} {M : Nat} (hM : ah_f h 168 35 = nI M) (h60 : M ≤ 60) : X12_isMove_V 168 p h = nI 0 ↔ ¬ ix p M := by
  unfold X12_isMove_V
  rw [hM]
  exact in_ix (by omega) h
theorem isMC (K : sp h) (p : Int32) : X12_isMove_C 168 p h := ⟨o168 K, in_bo _ _ _ _, trivial⟩
theorem isK (v : Int32) : X11_isKind_V v h = nI 0 ↔ ¬ ix v 6 := ask_ix (n := 6) (by decide)
theorem st_as (x : R0 h W N B S len) (p c : Int32) : ST yX11_as mX11_as yX12_as mX12_as (d + 1) (d + 2) [.int p, .int c] h bc bs W S len := by
  have K := x.2.1
  obtain ⟨M, h60, hM, hM2, hMv⟩ := x.2.2.2.2.2.1
  have hold := x.2.2.2.1
  refine X11_as_e (X11_as_0 ?_)
  by_cases hall : ix p M ∧ ix c 6
  · obtain ⟨hp, hc⟩ := hall
    obtain ⟨p0, hp0, rfl⟩ := ix_of hp (by omega)
    obtain ⟨w, hw, rfl⟩ := ix_of hc (by decide)
    obtain ⟨a, kd, y1, y2, y3, y4, y5, y6, y7, y8, y9, y10⟩ := hMv p0 hp0
    have hp60 : p0 < 60 := by omega
    have par := par_of hold y5
    have ax2 : ld0 h 10000002 (nI kd) := ⟨6, Or.inr ⟨2, by decide, rfl, by rw [hold.2.2.1]⟩, (ix_nI (by omega)).mpr (by omega)⟩
    have ic : X5_isA_C a (nI w) h := ⟨y3, fun _ => trivial, fun _ => ⟨by rw [y6]; exact ax2, trivial⟩⟩
    by_cases yes : kd = w ∨ (kd % 2 = 1 ∧ w = kd - 1)
    · have iv : X5_isA_V a (nI w) h = nI 1 := by
        unfold X5_isA_V
        rw [y6, nI_clamp (by omega), par]
        by_cases e : kd = w
        · rw [if_pos (by rw [e])]
          rfl
        · rw [if_neg (fun z => e ((nI_eq (by omega) (by omega)).mp z))]
          have e2 : kd % 2 = 1 ∧ w = kd - 1 := by omega
          rw [if_pos e2.1, if_pos (by rw [e2.2])]
          rfl
      simp +decide (disch := omega) only [o0 K, hasMC K, hasM hM h60, hp, isK, hc, r0_1 K, s2 K, hp60, y1, y3, ic, iv, grC K, grV, grH, forall_eq, Option.some.injEq, exists_eq_left', Option.getD_some, Value.int.injEq, Value.long.injEq, not_true_eq_false, not_false_eq_true, false_implies, true_implies, forall_const, implies_true, and_true, true_and, Classical.not_not, il_0, il_1, il_2, il_3, il_4, il_5, il_6, il_7, il_8, il_9, il_10, il_11, il_12, il_13, il_14, il_15, il_16, il_17, il_18, il_19, il_20, il_24, il_30, il_31, il_38, il_39, il_40, il_41, il_48, il_50, il_59, il_60, il_63, il_64, il_70, il_80, il_99, il_100, il_120, il_130, il_140, il_144, il_159, il_160, il_162, il_200, il_210, il_240, il_264, il_280, il_281, il_300, il_364, il_368, il_599, il_600, il_601, il_999, il_1610, il_1620, il_1800, il_4000, il_5000, il_7000, il_14500, il_58240, il_1000000, m1_e, nI_1, nI_add, pk_mul, pk_div, pk_sub, nI_clamp, nI_leI, nI_ltI, nI_eq, m1_lt, m1_le, m1_gt, m1_ge, m1_ne, m1_en, ix_nI, im_nI, and1, and3, sh2_, shr2, corner_nI, turned_nI]
      have Kc : sp (cNo h (nI 0)) := K
      have q6 : ah_f (cNo h (nI 0)) 168 35 = nI M := by unfold cNo; rw [f_sf_n _ _ _ _ _ (by decide)]; exact hM2
      have q7 : ah_i (cNo h (nI 0)) 197 (4 * p0) = nI kd := by rw [i_cNo]; exact y7
      have hv : X12_in_V (Int32.toInt64 (nI w)) 0 5 (cNo h (nI 0)) = nI 0 ↔ ¬ ix (nI w) 6 := in05 _
      have fin : ex_G mX12_as (d + 2) 55 [.ref 168, .retAddr 0, .retAddr 0, .retAddr 0, .retAddr 0] [] (cNo h (nI 0)) 0 0 (fun r' h2 => r' = some (.int (nI 1)) ∧ DONE h h2 W S len) := by
        refine X12_as_55 (X12_as_60 ⟨fun z => absurd z (by decide), fun _ => ⟨o168 Kc, weC Kc _, fun h7 e7 => ?_⟩⟩)
        subst e7
        exact ⟨rfl, D_no x (fcs_refl h) (nI 0) (fms_refl _)⟩
      refine X12_as_e (X12_as_0 ?_)
      simp (disch := omega) only [o168 Kc, isMC Kc, isM_ q6 h60, hp, hv, hc, r168_36 Kc, s197 Kc, q7, forall_eq, Option.some.injEq, exists_eq_left', Option.getD_some, Value.int.injEq, Value.long.injEq, not_true_eq_false, not_false_eq_true, false_implies, true_implies, forall_const, implies_true, and_true, true_and, Classical.not_not, il_0, il_1, il_2, il_3, il_4, il_5, il_6, il_7, il_8, il_9, il_10, il_11, il_12, il_13, il_14, il_15, il_16, il_17, il_18, il_19, il_20, il_24, il_30, il_31, il_38, il_39, il_40, il_41, il_48, il_50, il_59, il_60, il_63, il_64, il_70, il_80, il_99, il_100, il_120, il_130, il_140, il_144, il_159, il_160, il_162, il_200, il_210, il_240, il_264, il_280, il_281, il_300, il_364, il_368, il_599, il_600, il_601, il_999, il_1610, il_1620, il_1800, il_4000, il_5000, il_7000, il_14500, il_58240, il_1000000, m1_e, nI_1, nI_add, pk_mul, pk_div, pk_sub, nI_clamp, nI_leI, nI_ltI, nI_eq, m1_lt, m1_le, m1_gt, m1_ge, m1_ne, m1_en, ix_nI, im_nI, and1, and3, sh2_, shr2, corner_nI, turned_nI]
      refine ⟨by omega, fun _ => fin, fun z => ⟨fun u => ?_, fun u => ⟨fun t => ?_, fun _ => fin⟩⟩⟩
      · exact absurd (show kd % 2 = 1 by omega) u
      · have : nI kd - nI 1 = nI (kd - 1) := pk_sub (by omega)
        rw [this, nI_eq (by omega) (by omega)] at t
        omega
    · have iv : X5_isA_V a (nI w) h = nI 0 := by
        unfold X5_isA_V
        rw [y6, nI_clamp (by omega), par]
        rw [if_neg (fun z => yes (Or.inl ((nI_eq (by omega) (by omega)).mp z)))]
        by_cases e : kd % 2 = 1
        · rw [if_pos e, if_neg (fun z => yes (Or.inr ⟨e, ((nI_eq (by omega) (by omega)).mp z).symm⟩))]
          rfl
        · rw [if_neg e, if_neg (m1_en (by omega))]
          rfl
      simp +decide (disch := omega) only [o0 K, hasMC K, hasM hM h60, hp, isK, hc, r0_1 K, s2 K, hp60, y1, y3, ic, iv, forall_eq, Option.some.injEq, exists_eq_left', Option.getD_some, Value.int.injEq, Value.long.injEq, not_true_eq_false, not_false_eq_true, false_implies, true_implies, forall_const, implies_true, and_true, true_and, Classical.not_not, il_0, il_1, il_2, il_3, il_4, il_5, il_6, il_7, il_8, il_9, il_10, il_11, il_12, il_13, il_14, il_15, il_16, il_17, il_18, il_19, il_20, il_24, il_30, il_31, il_38, il_39, il_40, il_41, il_48, il_50, il_59, il_60, il_63, il_64, il_70, il_80, il_99, il_100, il_120, il_130, il_140, il_144, il_159, il_160, il_162, il_200, il_210, il_240, il_264, il_280, il_281, il_300, il_364, il_368, il_599, il_600, il_601, il_999, il_1610, il_1620, il_1800, il_4000, il_5000, il_7000, il_14500, il_58240, il_1000000, m1_e, nI_1, nI_add, pk_mul, pk_div, pk_sub, nI_clamp, nI_leI, nI_ltI, nI_eq, m1_lt, m1_le, m1_gt, m1_ge, m1_ne, m1_en, ix_nI, im_nI, and1, and3, sh2_, shr2, corner_nI, turned_nI]
      refine c_f K 4 (by decide) (by decide) ⟨_, rfl, ?_⟩
      have Kc : sp (cF h 4) := K
      have q6 : ah_f (cF h 4) 168 35 = nI M := by unfold cF; rw [f_si, f_sf_n _ _ _ _ _ (by decide)]; exact hM2
      have q7 : ah_i (cF h 4) 197 (4 * p0) = nI kd := by unfold cF; rw [i_si_n _ _ _ _ _ (by decide), i_sf]; exact y7
      have hv : X12_in_V (Int32.toInt64 (nI w)) 0 5 (cF h 4) = nI 0 ↔ ¬ ix (nI w) 6 := in05 _
      have fin : ex_G mX12_as (d + 2) 59 [.ref 168, .retAddr 0, .retAddr 0, .retAddr 0, .retAddr 0] [] (cF h 4) 0 0 (fun r' h2 => r' = some (.int (-nI (10 + 4))) ∧ DONE h h2 W S len) := by
        refine X12_as_59 (X12_as_60 ⟨fun _ => ⟨o168 Kc, meC Kc (f := 4) (by decide), fun h7 e7 => ?_⟩, fun z => absurd rfl z⟩)
        have e8 : h7 = mF (cF h 4) 4 := e7.trans (meH Kc (f := 4) (by decide))
        rw [e8]
        exact ⟨rfl, D_f x (fcs_refl h) (by decide) (by decide) (fms_refl _)⟩
      refine X12_as_e (X12_as_0 ?_)
      simp (disch := omega) only [o168 Kc, isMC Kc, isM_ q6 h60, hp, hv, hc, r168_36 Kc, s197 Kc, q7, forall_eq, Option.some.injEq, exists_eq_left', Option.getD_some, Value.int.injEq, Value.long.injEq, not_true_eq_false, not_false_eq_true, false_implies, true_implies, forall_const, implies_true, and_true, true_and, Classical.not_not, il_0, il_1, il_2, il_3, il_4, il_5, il_6, il_7, il_8, il_9, il_10, il_11, il_12, il_13, il_14, il_15, il_16, il_17, il_18, il_19, il_20, il_24, il_30, il_31, il_38, il_39, il_40, il_41, il_48, il_50, il_59, il_60, il_63, il_64, il_70, il_80, il_99, il_100, il_120, il_130, il_140, il_144, il_159, il_160, il_162, il_200, il_210, il_240, il_264, il_280, il_281, il_300, il_364, il_368, il_599, il_600, il_601, il_999, il_1610, il_1620, il_1800, il_4000, il_5000, il_7000, il_14500, il_58240, il_1000000, m1_e, nI_1, nI_add, pk_mul, pk_div, pk_sub, nI_clamp, nI_leI, nI_ltI, nI_eq, m1_lt, m1_le, m1_gt, m1_ge, m1_ne, m1_en, ix_nI, im_nI, and1, and3, sh2_, shr2, corner_nI, turned_nI]
      refine ⟨by omega, fun z => absurd (Or.inl z) yes, fun z => ⟨fun _ => fin, fun u => ⟨fun _ => fin, fun t => ?_⟩⟩⟩
      have e1 : nI kd - nI 1 = nI (kd - 1) := pk_sub (by omega)
      rw [e1, nI_eq (by omega) (by omega)] at t
      exact absurd (Or.inr ⟨u, t⟩) yes
  · have Kc : sp (cNo h (-nI 2)) := K
    have q6 : ah_f (cNo h (-nI 2)) 168 35 = nI M := by unfold cNo; rw [f_sf_n _ _ _ _ _ (by decide)]; exact hM2
    have fin := D_no x (fcs_refl h) (-nI 2) (fms_refl _)
    have hv : X12_in_V (Int32.toInt64 c) 0 5 (cNo h (-nI 2)) = nI 0 ↔ ¬ ix c 6 := in05 _
    have mm : ex_S yX12_as mX12_as (d + 2) [.ref 168, .int p, .int c] (cNo h (-nI 2)) 0 0 (fun r' h2 => r' = some (.int (-nI 2)) ∧ DONE h h2 W S len) := by
      refine X12_as_e (X12_as_0 ?_)
      simp only [o168 Kc, isMC Kc, isM_ q6 h60, hv, noC Kc, noV, noH, forall_eq, Option.some.injEq, exists_eq_left', Option.getD_some, Value.int.injEq, Value.long.injEq, not_true_eq_false, not_false_eq_true, false_implies, true_implies, forall_const, implies_true, and_true, true_and, Classical.not_not, il_0, il_1, il_2, il_3, il_4, il_5, il_6, il_7, il_8, il_9, il_10, il_11, il_12, il_13, il_14, il_15, il_16, il_17, il_18, il_19, il_20, il_24, il_30, il_31, il_38, il_39, il_40, il_41, il_48, il_50, il_59, il_60, il_63, il_64, il_70, il_80, il_99, il_100, il_120, il_130, il_140, il_144, il_159, il_160, il_162, il_200, il_210, il_240, il_264, il_280, il_281, il_300, il_364, il_368, il_599, il_600, il_601, il_999, il_1610, il_1620, il_1800, il_4000, il_5000, il_7000, il_14500, il_58240, il_1000000]
      exact ⟨fun _ => fin, fun b1 => ⟨fun b2 => absurd ⟨b1, b2⟩ hall, fun _ => fin⟩⟩
    have cc_ : ex_S yX11_refuse mX11_refuse d [.ref 0, .int (-nI 2)] h 0 0 (fun r h4 => ∃ x5, r = some (.int x5) ∧ ex_S yX12_as mX12_as (d + 2) [.ref 168, .int p, .int c] h4 0 0 (fun r' h2 => r' = some (.int x5) ∧ DONE h h2 W S len)) := c_no K 2 (by decide) ⟨_, rfl, mm⟩
    simp only [o0 K, hasMC K, hasM hM h60, isK, forall_eq, Option.some.injEq, exists_eq_left', Option.getD_some, Value.int.injEq, Value.long.injEq, not_true_eq_false, not_false_eq_true, false_implies, true_implies, forall_const, implies_true, and_true, true_and, Classical.not_not, il_0, il_1, il_2, il_3, il_4, il_5, il_6, il_7, il_8, il_9, il_10, il_11, il_12, il_13, il_14, il_15, il_16, il_17, il_18, il_19, il_20, il_24, il_30, il_31, il_38, il_39, il_40, il_41, il_48, il_50, il_59, il_60, il_63, il_64, il_70, il_80, il_99, il_100, il_120, il_130, il_140, il_144, il_159, il_160, il_162, il_200, il_210, il_240, il_264, il_280, il_281, il_300, il_364, il_368, il_599, il_600, il_601, il_999, il_1610, il_1620, il_1800, il_4000, il_5000, il_7000, il_14500, il_58240, il_1000000]
    exact ⟨fun _ => cc_, fun b1 => ⟨fun b2 => absurd ⟨b1, b2⟩ hall, fun _ => cc_⟩⟩
end AS
