/-! power: the step. -/
section POWER2
variable {h : AH} {d bc bs : Nat} {Q : Option Value → AH → Prop} {W : Nat → Nat} {N : Nat} {B : Nat → Nat} {S : Nat → Int32} {len : Nat}
theorem in01 {v : Int32} (h : AH) : X12_in_V v.toInt64 0 1 h = nI 0 ↔ ¬ (v = nI 0 ∨ v = nI 1) := by
  refine (in_rg (v := v) 0 1 (by decide) (by decide) h).trans ?_
  have key : (0 ≤ v.toInt ∧ v.toInt ≤ 1) ↔ (v = nI 0 ∨ v = nI 1) := by
    constructor
    · intro q
      obtain ⟨j, hj, e⟩ := ix_of (show ix v 2 from ⟨by omega, by omega⟩) (by decide)
      rcases (show j = 0 ∨ j = 1 by omega) with z | z
      · exact Or.inl (by rw [e, z])
      · exact Or.inr (by rw [e, z])
    · rintro (e | e) <;> rw [e] <;> decide
  rw [key]
theorem great {p : Nat → Prop} {n : Nat} (h : ∃ k, k < n ∧ p k) : ∃ k, k < n ∧ p k ∧ ∀ j, k < j → j < n → ¬ p j := by
  obtain ⟨k0, h0, p0⟩ := h
  obtain ⟨m, hm, hl⟩ := pk_least (fun m => m < n ∧ p (n - 1 - m)) ⟨n - 1 - k0, by omega, by rw [show n - 1 - (n - 1 - k0) = k0 by omega]; exact p0⟩
  refine ⟨n - 1 - m, by omega, hm.2, fun j j1 j2 pj => ?_⟩
  exact hl (n - 1 - j) (by omega) ⟨by omega, by rw [show n - 1 - (n - 1 - j) = j by omega]; exact pj⟩
theorem st_power (x : R0 h W N B S len) (v : Int32) : ST yX11_power mX11_power yX12_power mX12_power (d + 1) (d + 2) [.int v] h bc bs W S len := by
  have K := x.2.1
  obtain ⟨y, y1, y2, y3, y4⟩ := x.2.2.2.2.2.2.2.1
  have yx : ah_x h y 2 281 := by
    rcases y1 with e | e
    · rw [e]; exact sp_x K 74 (by decide) rfl
    · rw [e]; exact sp_x K 75 (by decide) rfl
  refine X11_power_e (X11_power_0 ?_)
  by_cases hv : v = nI 0 ∨ v = nI 1
  · have go : ex_G mX11_power (d + 1) 16 [.ref 0, .int v] [] h bc bs (fun r h1 => ∃ u : Int32, r = some (.int u) ∧ ex_S yX12_power mX12_power (d + 2) [.ref 168, .int v] h1 0 0 (fun r' h2 => r' = some (.int u) ∧ DONE h h2 W S len)) := by
      refine X11_power_16 ⟨o0 K, 73, r0_8 K, o73 K, ?_⟩
      rw [y3]
      rcases y4 with ⟨z0, z1⟩ | ⟨z0, z1, z2, z3⟩
      · refine ⟨fun z => absurd z0 z, fun _ => c_f K 5 (by decide) (by decide) ⟨_, rfl, _, rfl, ?_⟩⟩
        have Kc : sp (cF h 5) := R1_cF x.2 (fcs_refl h) 5 |>.1
        have q22 : ah_f (cF h 5) 168 22 = nI 0 := by unfold cF; rw [f_si, f_sf_n _ _ _ _ _ (by decide)]; exact z0
        have hin : X12_in_V (Int32.toInt64 v) 0 1 (cF h 5) = nI 0 ↔ ¬ (v = nI 0 ∨ v = nI 1) := in01 _
        refine X12_power_e (X12_power_0 ?_)
        simp (disch := omega) only [hin, hv, o168 Kc, q22, meC Kc, meH Kc, meV, forall_eq, Option.some.injEq, exists_eq_left', Option.getD_some, Value.int.injEq, Value.long.injEq, not_true_eq_false, not_false_eq_true, false_implies, true_implies, forall_const, implies_true, and_true, true_and, Classical.not_not, il_0, il_1, il_2, il_3, il_4, il_5, il_6, il_7, il_8, il_9, il_10, il_11, il_12, il_13, il_14, il_15, il_16, il_17, il_18, il_19, il_20, il_24, il_30, il_31, il_38, il_39, il_40, il_41, il_48, il_50, il_59, il_60, il_63, il_64, il_70, il_80, il_99, il_100, il_120, il_130, il_140, il_144, il_159, il_160, il_162, il_200, il_210, il_240, il_264, il_280, il_281, il_300, il_364, il_368, il_599, il_600, il_601, il_999, il_1610, il_1620, il_1800, il_4000, il_5000, il_7000, il_14500, il_58240, il_1000000]
        exact D_f x (fcs_refl h) (by decide) (by decide) (fms_refl _)
      · have z0' : ¬ ah_f h 168 22 = 0 := by rw [z0]; decide
        refine ⟨fun _ => ?_, fun z => absurd z z0'⟩
        have Kc : sp (cNo h (nI 0)) := (R1_cNo x.2 (fcs_refl h) (nI 0)).1
        have q22 : ah_f (cNo h (nI 0)) 168 22 = nI 1 := by unfold cNo; rw [f_sf_n _ _ _ _ _ (by decide)]; exact z0
        have ql : ah_l (cNo h (nI 0)) 186 = ah_l h 186 := by unfold cNo; rw [l_sf]
        have n10 : ¬ (nI 1 : Int32) = nI 0 := by decide
        have fin := D_no x (fcs_refl h) (nI 0) (fms_refl _)
        have hin : X12_in_V (Int32.toInt64 v) 0 1 (cNo h (nI 0)) = nI 0 ↔ ¬ (v = nI 0 ∨ v = nI 1) := in01 _
        have inr : ∀ k, k < 601 → ah_l h 186 k ≠ 0 → 160 ≤ k ∧ k ≤ 440 := fun k hk nz => by
          by_cases q : k < 160 ∨ 440 < k
          · exact absurd (z2 k hk q) nz
          · omega
        have cl : ∀ k, 160 ≤ k → k ≤ 440 → ah_l h y (k - 160) = ah_l h 186 k := fun k a b => by rw [z1 (k - 160) (by omega), show k - 160 + 160 = k by omega]
        refine ⟨fun w => ?_, fun w => ?_⟩
        · have ev : v = nI 1 := hv.resolve_left (fun e => w e)
          subst ev
          obtain ⟨k0, hk, nz, gl⟩ := great (p := fun k => ah_l h 186 k ≠ 0) z3
          obtain ⟨ka, kb⟩ := inr k0 hk nz
          refine c_highest (k0 := k0 - 160) (o73 K) y2 yx (by omega) (by rw [cl k0 ka kb]; exact nz) (fun k a b => ?_) ⟨_, rfl, o0 K, grC K _, ?_⟩
          · rw [z1 k b]
            exact Classical.byContradiction (fun c => gl (k + 160) (by omega) (by omega) c)
          · rw [grV, grH]
            intro h10 e10
            subst e10
            refine ⟨_, rfl, X12_power_e (X12_power_0 ?_)⟩
            simp (disch := omega) only [hin, hv, o168 Kc, q22, n10, m1_e, true_or, or_true, forall_eq, Option.some.injEq, exists_eq_left', Option.getD_some, Value.int.injEq, Value.long.injEq, not_true_eq_false, not_false_eq_true, false_implies, true_implies, forall_const, implies_true, and_true, true_and, Classical.not_not, il_0, il_1, il_2, il_3, il_4, il_5, il_6, il_7, il_8, il_9, il_10, il_11, il_12, il_13, il_14, il_15, il_16, il_17, il_18, il_19, il_20, il_24, il_30, il_31, il_38, il_39, il_40, il_41, il_48, il_50, il_59, il_60, il_63, il_64, il_70, il_80, il_99, il_100, il_120, il_130, il_140, il_144, il_159, il_160, il_162, il_200, il_210, il_240, il_264, il_280, il_281, il_300, il_364, il_368, il_599, il_600, il_601, il_999, il_1610, il_1620, il_1800, il_4000, il_5000, il_7000, il_14500, il_58240, il_1000000]
            refine m_pow1 (K0 := k0) Kc hk ?_ ?_ ?_
            · rw [ql]; exact nz
            · intro k a b
              rw [ql]
              exact Classical.byContradiction (fun c => gl k a b c)
            refine ⟨?_, fin⟩
            have := sub_300 (k0 - 160)
            rw [show k0 - 160 + 160 = k0 by omega] at this
            rw [this]
        · have ev : v = nI 0 := w
          subst ev
          obtain ⟨k0, ⟨hk, nz⟩, ll⟩ := pk_least (fun k => k < 601 ∧ ah_l h 186 k ≠ 0) z3
          obtain ⟨ka, kb⟩ := inr k0 hk nz
          refine c_lowest (k0 := k0 - 160) (o73 K) y2 yx (by omega) (by rw [cl k0 ka kb]; exact nz) (fun k a => ?_) ⟨_, rfl, o0 K, grC K _, ?_⟩
          · rw [z1 k (by omega)]
            exact Classical.byContradiction (fun c => ll (k + 160) (by omega) ⟨by omega, c⟩)
          · rw [grV, grH]
            intro h10 e10
            subst e10
            refine ⟨_, rfl, X12_power_e (X12_power_0 ?_)⟩
            simp (disch := omega) only [hin, hv, o168 Kc, q22, n10, m1_e, true_or, or_true, forall_eq, Option.some.injEq, exists_eq_left', Option.getD_some, Value.int.injEq, Value.long.injEq, not_true_eq_false, not_false_eq_true, false_implies, true_implies, forall_const, implies_true, and_true, true_and, Classical.not_not, il_0, il_1, il_2, il_3, il_4, il_5, il_6, il_7, il_8, il_9, il_10, il_11, il_12, il_13, il_14, il_15, il_16, il_17, il_18, il_19, il_20, il_24, il_30, il_31, il_38, il_39, il_40, il_41, il_48, il_50, il_59, il_60, il_63, il_64, il_70, il_80, il_99, il_100, il_120, il_130, il_140, il_144, il_159, il_160, il_162, il_200, il_210, il_240, il_264, il_280, il_281, il_300, il_364, il_368, il_599, il_600, il_601, il_999, il_1610, il_1620, il_1800, il_4000, il_5000, il_7000, il_14500, il_58240, il_1000000]
            refine m_pow0 (K0 := k0) Kc hk ?_ ?_ ?_
            · rw [ql]; exact nz
            · intro k a
              rw [ql]
              exact Classical.byContradiction (fun c => ll k a ⟨by omega, c⟩)
            refine ⟨?_, fin⟩
            have := sub_300 (k0 - 160)
            rw [show k0 - 160 + 160 = k0 by omega] at this
            rw [this]
    exact ⟨fun _ => go, fun z => ⟨fun _ => go, fun w => absurd hv (fun q => q.elim (fun e => z e) (fun e => w e))⟩⟩
  · have Kc : sp (cNo h (-nI 2)) := (R1_cNo x.2 (fcs_refl h) (-nI 2)).1
    have hin : X12_in_V (Int32.toInt64 v) 0 1 (cNo h (-nI 2)) = nI 0 ↔ ¬ (v = nI 0 ∨ v = nI 1) := in01 _
    refine ⟨fun z => absurd (Or.inl z) hv, fun _ => ⟨fun z => absurd (Or.inr z) hv, fun _ => ⟨o0 K, c_no K 2 (by decide) ⟨_, rfl, _, rfl, ?_⟩⟩⟩⟩
    refine X12_power_e (X12_power_0 ?_)
    simp (disch := omega) only [hin, hv, o168 Kc, noC Kc, noV, noH, forall_eq, Option.some.injEq, exists_eq_left', Option.getD_some, Value.int.injEq, Value.long.injEq, not_true_eq_false, not_false_eq_true, false_implies, true_implies, forall_const, implies_true, and_true, true_and, Classical.not_not, il_0, il_1, il_2, il_3, il_4, il_5, il_6, il_7, il_8, il_9, il_10, il_11, il_12, il_13, il_14, il_15, il_16, il_17, il_18, il_19, il_20, il_24, il_30, il_31, il_38, il_39, il_40, il_41, il_48, il_50, il_59, il_60, il_63, il_64, il_70, il_80, il_99, il_100, il_120, il_130, il_140, il_144, il_159, il_160, il_162, il_200, il_210, il_240, il_264, il_280, il_281, il_300, il_364, il_368, il_599, il_600, il_601, il_999, il_1610, il_1620, il_1800, il_4000, il_5000, il_7000, il_14500, il_58240, il_1000000]
    exact D_no x (fcs_refl h) _ (fms_refl _)
end POWER2
