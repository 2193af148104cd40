/-! power. -/
theorem lgc0 (x y : Int64) : lg_cmp x y = nI 0 ↔ x = y := lg_cmp_eq x y
section POWER
variable {h : AH} {d bc bs : Nat} {Q : Option Value → AH → Prop} {W : Nat → Nat} {N : Nat} {B : Nat → Nat} {S : Nat → Int32} {len : Nat}
theorem c_lowest {b y k0 : Nat} (o : ah_o h b 2) (r : ah_r h b 0 = some y) (ax : ah_x h y 2 281) (hk : k0 < 281) (hz : ah_l h y k0 ≠ 0) (hl : ∀ k, k < k0 → ah_l h y k = 0) (k : Q (some (.int (nI k0 - nI 140))) h) : ex_S yX2_lowest mX2_lowest d [.ref b] h bc bs Q := by
  refine X2_lowest_e (X2_lowest_0 ?_)
  refine lp k0 (fun j h' => h' = h) (fun j h' => ex_G mX2_lowest d 2 [.ref b, .int (nI j)] [] h' bc bs Q) rfl ?_ ?_
  · rintro j h1 hj e nx
    subst e
    have hj0 := hl j hj
    refine X2_lowest_2 ?_
    simp (disch := omega) only [o, r, ld2_x ax, hj0, lg_cmp_eq, lgc0, forall_eq, Option.some.injEq, exists_eq_left', Option.getD_some, Value.int.injEq, Value.long.injEq, not_true_eq_false, not_false_eq_true, false_implies, true_implies, forall_const, implies_true, and_true, true_and, Classical.not_not, il_0, il_1, il_2, il_3, il_4, il_5, il_6, il_7, il_8, il_9, il_10, il_11, il_12, il_13, il_14, il_15, il_16, il_17, il_18, il_19, il_20, il_24, il_30, il_31, il_38, il_39, il_40, il_41, il_48, il_50, il_59, il_60, il_63, il_64, il_70, il_80, il_99, il_100, il_120, il_130, il_140, il_144, il_159, il_160, il_162, il_200, il_210, il_240, il_264, il_280, il_281, il_300, il_364, il_368, il_599, il_600, il_601, il_999, il_1610, il_1620, il_1800, il_4000, il_5000, il_7000, il_14500, il_58240, il_1000000, m1_e, nI_1, nI_add, pk_mul, pk_div, pk_sub, nI_clamp, nI_leI, nI_ltI, nI_eq, m1_lt, m1_le, m1_gt, m1_ge, m1_ne, m1_en, ix_nI, im_nI, and1, and3, sh2_, shr2, corner_nI, turned_nI]
    exact ⟨fun z => by omega, fun _ => ⟨by omega, nx _ rfl⟩⟩
  · rintro h1 e
    subst e
    refine X2_lowest_2 ?_
    simp (disch := omega) only [o, r, ld2_x ax, forall_eq, Option.some.injEq, exists_eq_left', Option.getD_some, Value.int.injEq, Value.long.injEq, not_true_eq_false, not_false_eq_true, false_implies, true_implies, forall_const, implies_true, and_true, true_and, Classical.not_not, il_281, il_1, il_140, nI_leI, nI_clamp, ix_nI, lg_cmp_eq, lgc0]
    exact ⟨fun z => by omega, fun _ => ⟨by omega, fun z => absurd z hz, fun _ => k⟩⟩
theorem c_highest {b y k0 : Nat} (o : ah_o h b 2) (r : ah_r h b 0 = some y) (ax : ah_x h y 2 281) (hk : k0 < 281) (hz : ah_l h y k0 ≠ 0) (hl : ∀ k, k0 < k → k < 281 → ah_l h y k = 0) (k : Q (some (.int (nI k0 - nI 140))) h) : ex_S yX2_highest mX2_highest d [.ref b] h bc bs Q := by
  refine X2_highest_e (X2_highest_0 ?_)
  refine lp (280 - k0) (fun j h' => h' = h) (fun j h' => ex_G mX2_highest d 4 [.ref b, .int (nI (280 - j))] [] h' bc bs Q) rfl ?_ ?_
  · rintro j h1 hj e nx
    subst e
    have hj0 := hl (280 - j) (by omega) (by omega)
    have hd : nI (280 - j) + m1 = nI (280 - (j + 1)) := by
      have := pk_m1 (280 - (j + 1))
      rw [show 280 - (j + 1) + 1 = 280 - j by omega] at this
      exact this
    refine X2_highest_4 ?_
    simp (disch := omega) only [o, r, ld2_x ax, hj0, lg_cmp_eq, lgc0, hd, forall_eq, Option.some.injEq, exists_eq_left', Option.getD_some, Value.int.injEq, Value.long.injEq, not_true_eq_false, not_false_eq_true, false_implies, true_implies, forall_const, implies_true, and_true, true_and, Classical.not_not, il_0, il_1, il_2, il_3, il_4, il_5, il_6, il_7, il_8, il_9, il_10, il_11, il_12, il_13, il_14, il_15, il_16, il_17, il_18, il_19, il_20, il_24, il_30, il_31, il_38, il_39, il_40, il_41, il_48, il_50, il_59, il_60, il_63, il_64, il_70, il_80, il_99, il_100, il_120, il_130, il_140, il_144, il_159, il_160, il_162, il_200, il_210, il_240, il_264, il_280, il_281, il_300, il_364, il_368, il_599, il_600, il_601, il_999, il_1610, il_1620, il_1800, il_4000, il_5000, il_7000, il_14500, il_58240, il_1000000, m1_e, nI_1, nI_add, pk_mul, pk_div, pk_sub, nI_clamp, nI_leI, nI_ltI, nI_eq, m1_lt, m1_le, m1_gt, m1_ge, m1_ne, m1_en, ix_nI, im_nI, and1, and3, sh2_, shr2, corner_nI, turned_nI]
    exact ⟨fun z => by omega, fun _ => ⟨by omega, nx _ rfl⟩⟩
  · rintro h1 e
    subst e
    rw [show 280 - (280 - k0) = k0 by omega]
    refine X2_highest_4 ?_
    simp (disch := omega) only [o, r, ld2_x ax, forall_eq, Option.some.injEq, exists_eq_left', Option.getD_some, Value.int.injEq, Value.long.injEq, not_true_eq_false, not_false_eq_true, false_implies, true_implies, forall_const, implies_true, and_true, true_and, Classical.not_not, il_0, il_1, il_140, nI_ltI, nI_clamp, ix_nI, lg_cmp_eq, lgc0]
    exact ⟨fun z => by omega, fun _ => ⟨by omega, fun z => absurd z hz, fun _ => k⟩⟩
theorem sub_300 (k : Nat) : nI (k + 160) - nI 300 = nI k - nI 140 := by
  have e : (nI 160 : Int32) + -nI 300 = -nI 140 := by decide
  rw [← nI_add, Int32.sub_eq_add_neg, Int32.sub_eq_add_neg, Int32.add_assoc, e]
/-- the reference's loop: the least, or the greatest, place that isn't 0 -/
theorem m_pow0 {K0 : Nat} (K : sp h) (hk : K0 < 601) (hz : ah_l h 186 K0 ≠ 0) (hl : ∀ k, k < K0 → ah_l h 186 k = 0) (k : Q (some (.int (nI K0 - nI 300))) (mNo h (nI 0))) : ex_G mX12_power (d + 2) 34 [.ref 168, .int (nI 0), .int m1, .int (nI 0)] [] h bc bs Q := by
  have n01 : ¬ (nI 0 : Int32) = nI 1 := by decide
  refine lp 601 (fun j h' => h' = h) (fun j h' => ex_G mX12_power (d + 2) 34 [.ref 168, .int (nI 0), .int (if K0 < j then nI K0 else m1), .int (nI j)] [] h' bc bs Q) rfl ?_ ?_
  · rintro j h1 hj e nx
    subst e
    have nx := nx h1 rfl
    refine X12_power_34 ?_
    rcases Nat.lt_trichotomy j K0 with q | q | q
    · rw [if_neg (by omega)] at nx ⊢
      have hj0 := hl j q
      simp (disch := omega) only [o168 K, r168_21 K, s186 K, hj0, lg_cmp_eq, lgc0, forall_eq, Option.some.injEq, exists_eq_left', Option.getD_some, Value.int.injEq, Value.long.injEq, not_true_eq_false, not_false_eq_true, false_implies, true_implies, forall_const, implies_true, and_true, true_and, Classical.not_not, il_0, il_1, il_2, il_3, il_4, il_5, il_6, il_7, il_8, il_9, il_10, il_11, il_12, il_13, il_14, il_15, il_16, il_17, il_18, il_19, il_20, il_24, il_30, il_31, il_38, il_39, il_40, il_41, il_48, il_50, il_59, il_60, il_63, il_64, il_70, il_80, il_99, il_100, il_120, il_130, il_140, il_144, il_159, il_160, il_162, il_200, il_210, il_240, il_264, il_280, il_281, il_300, il_364, il_368, il_599, il_600, il_601, il_999, il_1610, il_1620, il_1800, il_4000, il_5000, il_7000, il_14500, il_58240, il_1000000, m1_e, nI_1, nI_add, pk_mul, pk_div, pk_sub, nI_clamp, nI_leI, nI_ltI, nI_eq, m1_lt, m1_le, m1_gt, m1_ge, m1_ne, m1_en, ix_nI, im_nI, and1, and3, sh2_, shr2, corner_nI, turned_nI]
      exact ⟨fun z => by omega, fun _ => ⟨by omega, nx⟩⟩
    · subst q
      rw [if_neg (by omega)]
      rw [if_pos (by omega)] at nx
      simp (disch := omega) only [o168 K, r168_21 K, s186 K, lg_cmp_eq, lgc0, n01, forall_eq, Option.some.injEq, exists_eq_left', Option.getD_some, Value.int.injEq, Value.long.injEq, not_true_eq_false, not_false_eq_true, false_implies, true_implies, forall_const, implies_true, and_true, true_and, Classical.not_not, il_0, il_1, il_2, il_3, il_4, il_5, il_6, il_7, il_8, il_9, il_10, il_11, il_12, il_13, il_14, il_15, il_16, il_17, il_18, il_19, il_20, il_24, il_30, il_31, il_38, il_39, il_40, il_41, il_48, il_50, il_59, il_60, il_63, il_64, il_70, il_80, il_99, il_100, il_120, il_130, il_140, il_144, il_159, il_160, il_162, il_200, il_210, il_240, il_264, il_280, il_281, il_300, il_364, il_368, il_599, il_600, il_601, il_999, il_1610, il_1620, il_1800, il_4000, il_5000, il_7000, il_14500, il_58240, il_1000000, m1_e, nI_1, nI_add, pk_mul, pk_div, pk_sub, nI_clamp, nI_leI, nI_ltI, nI_eq, m1_lt, m1_le, m1_gt, m1_ge, m1_ne, m1_en, ix_nI, im_nI, and1, and3, sh2_, shr2, corner_nI, turned_nI]
      exact ⟨fun z => by omega, fun _ => ⟨by omega, fun z => absurd z hz, fun _ => by first | exact nx | exact ⟨fun z => (by first | omega | exact absurd trivial z | exact z.elim | exact absurd rfl z), fun _ => ⟨fun z => (by first | omega | exact absurd trivial z | exact z.elim | exact absurd rfl z), fun _ => nx⟩⟩⟩⟩
    · rw [if_pos (by omega)] at nx ⊢
      simp (disch := omega) only [o168 K, r168_21 K, s186 K, lg_cmp_eq, lgc0, n01, forall_eq, Option.some.injEq, exists_eq_left', Option.getD_some, Value.int.injEq, Value.long.injEq, not_true_eq_false, not_false_eq_true, false_implies, true_implies, forall_const, implies_true, and_true, true_and, Classical.not_not, il_0, il_1, il_2, il_3, il_4, il_5, il_6, il_7, il_8, il_9, il_10, il_11, il_12, il_13, il_14, il_15, il_16, il_17, il_18, il_19, il_20, il_24, il_30, il_31, il_38, il_39, il_40, il_41, il_48, il_50, il_59, il_60, il_63, il_64, il_70, il_80, il_99, il_100, il_120, il_130, il_140, il_144, il_159, il_160, il_162, il_200, il_210, il_240, il_264, il_280, il_281, il_300, il_364, il_368, il_599, il_600, il_601, il_999, il_1610, il_1620, il_1800, il_4000, il_5000, il_7000, il_14500, il_58240, il_1000000, m1_e, nI_1, nI_add, pk_mul, pk_div, pk_sub, nI_clamp, nI_leI, nI_ltI, nI_eq, m1_lt, m1_le, m1_gt, m1_ge, m1_ne, m1_en, ix_nI, im_nI, and1, and3, sh2_, shr2, corner_nI, turned_nI]
      exact ⟨fun z => by omega, fun _ => ⟨by omega, fun _ => nx, fun _ => by first | exact nx | exact ⟨fun z => (by first | omega | exact absurd trivial z | exact z.elim | exact absurd rfl z), fun _ => ⟨fun _ => nx, fun z => (by first | omega | exact absurd trivial z | exact z.elim | exact absurd rfl z)⟩⟩⟩⟩
  · rintro h1 e
    subst e
    rw [if_pos (by omega)]
    refine X12_power_34 ?_
    simp (disch := omega) only [o168 K, weC K, weV, weH, forall_eq, Option.some.injEq, exists_eq_left', Option.getD_some, Value.int.injEq, Value.long.injEq, not_true_eq_false, not_false_eq_true, false_implies, true_implies, forall_const, implies_true, and_true, true_and, Classical.not_not, il_601, il_300, nI_leI]
    exact ⟨fun _ => k, fun z => absurd (Nat.le_refl _) z⟩
theorem m_pow1 {K0 : Nat} (K : sp h) (hk : K0 < 601) (hz : ah_l h 186 K0 ≠ 0) (hl : ∀ k, K0 < k → k < 601 → ah_l h 186 k = 0) (k : Q (some (.int (nI K0 - nI 300))) (mNo h (nI 0))) : ex_G mX12_power (d + 2) 34 [.ref 168, .int (nI 1), .int m1, .int (nI 0)] [] h bc bs Q := by
  refine lp 601 (σ := Int32 × AH) (fun j t => t.2 = h ∧ (K0 < j → t.1 = nI K0)) (fun j t => ex_G mX12_power (d + 2) 34 [.ref 168, .int (nI 1), .int t.1, .int (nI j)] [] t.2 bc bs Q) (s := (m1, h)) ⟨rfl, fun z => absurd z (Nat.not_lt_zero _)⟩ ?_ ?_
  · rintro j ⟨f, h1⟩ hj ⟨e, q⟩ nx
    simp only at e q nx ⊢
    subst e
    refine X12_power_34 ?_
    simp (disch := omega) only [o168 K, r168_21 K, s186 K, lg_cmp_eq, lgc0, forall_eq, Option.some.injEq, exists_eq_left', Option.getD_some, Value.int.injEq, Value.long.injEq, not_true_eq_false, not_false_eq_true, false_implies, true_implies, forall_const, implies_true, and_true, true_and, Classical.not_not, il_0, il_1, il_2, il_3, il_4, il_5, il_6, il_7, il_8, il_9, il_10, il_11, il_12, il_13, il_14, il_15, il_16, il_17, il_18, il_19, il_20, il_24, il_30, il_31, il_38, il_39, il_40, il_41, il_48, il_50, il_59, il_60, il_63, il_64, il_70, il_80, il_99, il_100, il_120, il_130, il_140, il_144, il_159, il_160, il_162, il_200, il_210, il_240, il_264, il_280, il_281, il_300, il_364, il_368, il_599, il_600, il_601, il_999, il_1610, il_1620, il_1800, il_4000, il_5000, il_7000, il_14500, il_58240, il_1000000, m1_e, nI_1, nI_add, pk_mul, pk_div, pk_sub, nI_clamp, nI_leI, nI_ltI, nI_eq, m1_lt, m1_le, m1_gt, m1_ge, m1_ne, m1_en, ix_nI, im_nI, and1, and3, sh2_, shr2, corner_nI, turned_nI]
    refine ⟨fun z => by omega, fun _ => ⟨by omega, fun z => nx (f, h1) ⟨rfl, fun w => ?_⟩, fun z => nx (nI j, h1) ⟨rfl, fun w => ?_⟩⟩⟩
    · by_cases e : K0 = j
      · subst e; exact absurd z hz
      · exact q (by omega)
    · by_cases e : K0 = j
      · rw [e]
      · exact absurd (hl j (by omega) hj) z
  · rintro ⟨f, h1⟩ ⟨e, q⟩
    simp only at e q ⊢
    subst e
    have q := q hk
    subst q
    refine X12_power_34 ?_
    simp (disch := omega) only [o168 K, weC K, weV, weH, forall_eq, Option.some.injEq, exists_eq_left', Option.getD_some, Value.int.injEq, Value.long.injEq, not_true_eq_false, not_false_eq_true, false_implies, true_implies, forall_const, implies_true, and_true, true_and, Classical.not_not, il_601, il_300, nI_leI]
    exact ⟨fun _ => k, fun z => absurd (Nat.le_refl _) z⟩
end POWER
