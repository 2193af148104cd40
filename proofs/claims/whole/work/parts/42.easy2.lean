/-! end, put, loose. -/
def WY (n : Nat) (L : Nat → Int32) (c i : Int32) (w : Nat) : Prop := (¬ ix c n ∧ w = 2) ∨ (∃ c0, c0 < n ∧ c = nI c0 ∧ L c0 = m1 ∧ w = 1) ∨ ∃ c0 l, c0 < n ∧ c = nI c0 ∧ l ≤ 4 ∧ L c0 = nI l ∧ ((¬ ix i l ∧ w = 2) ∨ ∃ i0, i0 < l ∧ i = nI i0 ∧ w = 0)
section EASY2
variable {h h' hz : AH} {d bc bs : Nat} {Q : Option Value → AH → Prop} {W W' : Nat → Nat} {N : Nat} {B : Nat → Nat} {S : Nat → Int32} {len : Nat}
theorem WY_ex {n : Nat} {L A : Nat → Int32} (O : PO n L A) (c i : Int32) : ∃ w, w ≤ 2 ∧ WY n L c i w := by
  have h40 := O.1
  by_cases hc : ix c n
  · obtain ⟨c0, hc0, e⟩ := ix_of hc (by omega)
    rcases O.2.1 c0 hc0 with q | ⟨l, hl, q⟩
    · exact ⟨1, by omega, Or.inr (Or.inl ⟨c0, hc0, e, q, rfl⟩)⟩
    · by_cases hi : ix i l
      · obtain ⟨i0, hi0, e2⟩ := ix_of hi (by omega)
        exact ⟨0, by omega, Or.inr (Or.inr ⟨c0, l, hc0, e, hl, q, Or.inr ⟨i0, hi0, e2, rfl⟩⟩)⟩
      · exact ⟨2, by omega, Or.inr (Or.inr ⟨c0, l, hc0, e, hl, q, Or.inl ⟨hi, rfl⟩⟩)⟩
  · exact ⟨2, by omega, Or.inl ⟨hc, rfl⟩⟩
theorem hasC {b n : Nat} (hn : ah_f h b 2 = nI n) (h40 : n ≤ 40) (c : Int32) : X7_hasCrossing_V b c h = 0 ↔ ¬ ix c n := by
  unfold X7_hasCrossing_V
  rw [hn]
  exact ask_ix (by omega)
theorem whyC {b n : Nat} (P : pt h b) (hn : ah_f h b 2 = nI n) (h40 : n ≤ 40) (c i : Int32) : X11_whyOutOfReach_C b c i h := by
  refine ⟨pt_o P, ⟨fun _ => trivial, fun _ => ⟨pt_o P, trivial⟩⟩, fun z => ⟨b + 1, pt_r0 P, ?_, trivial⟩, fun _ => trivial⟩
  rw [hasC hn h40, Classical.not_not] at z
  obtain ⟨c0, hc0, e⟩ := ix_of z (by omega)
  rw [e, pt_s0 P, ix_nI (by omega)]
  omega
theorem whyV {b n w : Nat} (P : pt h b) (hn : ah_f h b 2 = nI n) (h40 : n ≤ 40) {c i : Int32} (x : WY n (ah_i h (b + 1)) c i w) : X11_whyOutOfReach_V b c i h = if w = 0 then nI 0 else -nI (10 + w) := by
  unfold X11_whyOutOfReach_V
  rw [pt_r0 P, Option.getD_some]
  rcases x with ⟨q, e⟩ | ⟨c0, hc0, e, q, e2⟩ | ⟨c0, l, hc0, e, hl, q, x⟩
  · rw [if_pos ((hasC hn h40 c).mpr q), e]
    rfl
  · have hi : ix c n := by rw [e, ix_nI (by omega)]; exact hc0
    rw [if_neg (fun z => (hasC hn h40 c).mp z hi), e, nI_clamp (by omega), q, if_neg (show ¬ (0 : Int32) ≤ m1 by decide), e2]
    rfl
  · have hi : ix c n := by rw [e, ix_nI (by omega)]; exact hc0
    rw [if_neg (fun z => (hasC hn h40 c).mp z hi), e, nI_clamp (by omega), q, if_pos (nI_pos' (by omega))]
    rcases x with ⟨z, e2⟩ | ⟨i0, hi0, e2, e3⟩
    · rw [e2]
      rcases ix_cases i (n := l) (by omega) with y | y | ⟨j, hj, y⟩
      · rw [if_pos y.1]
        rfl
      · have : ¬ i < nI l := fun w => by
          have a1 := Int32.lt_iff_toInt_lt.mp w
          have a2 := Int32.le_iff_toInt_le.mp y.1
          omega
        rw [if_neg this]
        split <;> rfl
      · exact absurd (by rw [y, ix_nI (by omega)]; exact hj) z
    · rw [e2, e3, if_neg (nI_pos (by omega)), if_pos (nI_lt hi0 (by omega))]
      rfl
theorem lacksC {p n : Nat} (K : sp h) (hp : p < 368) (hn : ah_i h 170 p = nI n) (h40 : n ≤ 40) (c i : Int32) : X12_lacks_C 168 (nI p) c i h := by
  unfold X12_lacks_C
  refine ⟨o168 K, 170, r168_2 K, (s170 K _).mpr ((ix_nI (by omega)).mpr hp), fun z => ⟨172, r168_4 K, ?_, trivial⟩, fun _ => trivial⟩
  rw [nI_clamp (by omega), hn] at z
  have z2 : ¬ (X12_in_V (Int32.toInt64 c) 0 (Int32.toInt64 (nI n - nI 1)) h = 0) := z
  rw [in_ix (by omega), Classical.not_not] at z2
  obtain ⟨c0, hc0, e⟩ := ix_of z2 (by omega)
  have : (40 : Int32) * nI p + nI c0 = nI (40 * p + c0) := by rw [il_40, pk_mul, nI_add]
  rw [e, s172 K, this, ix_nI (by omega)]
  omega
theorem lacksV {p n w : Nat} {L : Nat → Int32} (K : sp h) (hp : p < 368) (hn : ah_i h 170 p = nI n) (h40 : n ≤ 40) (hL : ∀ c, c < n → ah_i h 172 (40 * p + c) = L c) {c i : Int32} (x : WY n L c i w) : X12_lacks_V 168 (nI p) c i h = nI w := by
  unfold X12_lacks_V
  rw [r168_2 K, r168_4 K, Option.getD_some, Option.getD_some, nI_clamp (by omega), hn]
  have hin : ∀ v : Int32, X12_in_V (Int32.toInt64 v) 0 (Int32.toInt64 (nI n - 1)) h = 0 ↔ ¬ ix v n := fun v => in_ix (by omega) h
  have hadd : ∀ c0 : Nat, (40 : Int32) * nI p + nI c0 = nI (40 * p + c0) := fun c0 => by rw [il_40, pk_mul, nI_add]
  rcases x with ⟨q, e⟩ | ⟨c0, hc0, e, q, e2⟩ | ⟨c0, l, hc0, e, hl, q, x⟩
  · rw [if_pos ((hin c).mpr q), e]
    rfl
  · have hi : ix c n := by rw [e, ix_nI (by omega)]; exact hc0
    rw [if_neg (fun z => (hin c).mp z hi), e, hadd, nI_clamp (by omega), hL c0 hc0, q, if_neg (show ¬ (0 : Int32) ≤ m1 by decide), e2]
    rfl
  · have hi : ix c n := by rw [e, ix_nI (by omega)]; exact hc0
    rw [if_neg (fun z => (hin c).mp z hi), e, hadd, nI_clamp (by omega), hL c0 hc0, q, if_pos (nI_pos' (by omega))]
    have hin2 : X12_in_V (Int32.toInt64 i) 0 (Int32.toInt64 (nI l - 1)) h = 0 ↔ ¬ ix i l := in_ix (by omega) h
    rcases x with ⟨z, e2⟩ | ⟨i0, hi0, e2, e3⟩
    · rw [if_pos (hin2.mpr z), e2]
      rfl
    · rw [if_neg (fun z => hin2.mp z (by rw [e2, ix_nI (by omega)]; exact hi0)), e3]
      rfl
theorem i_mNo (h : AH) (v : Int32) : ah_i (mNo h v) = ah_i h := i_sf _ _ _ _
theorem n_mNo (h : AH) (v : Int32) : ah_n (mNo h v) = ah_n h := n_sf _ _ _ _
theorem k_mNo (h : AH) (v : Int32) : ah_k (mNo h v) = ah_k h := k_sf _ _ _ _
theorem r_mNo (h : AH) (v : Int32) : ah_r (mNo h v) = ah_r h := r_sf _ _ _ _
theorem i_cNo (h : AH) (v : Int32) : ah_i (cNo h v) = ah_i h := i_sf _ _ _ _
theorem n_cNo (h : AH) (v : Int32) : ah_n (cNo h v) = ah_n h := n_sf _ _ _ _
theorem k_cNo (h : AH) (v : Int32) : ah_k (cNo h v) = ah_k h := k_sf _ _ _ _
theorem r_cNo (h : AH) (v : Int32) : ah_r (cNo h v) = ah_r h := r_sf _ _ _ _
/-- a call that changed picture p's own numbers and left no history -/
theorem D_edit {p0 : Nat} (x : R0 h W N B S len) (hp0 : p0 < N) (FF : fp p0 W h hz) (nn : ah_n hz = ah_n h) (kk : ah_k hz = ah_k h) (rr : ah_r hz = ah_r h) (k0 : ∀ k, ah_f hz 0 k = u1 (ah_f h 0) 19 (nI 0) k) (k1 : ∀ k, ah_f hz 168 k = u1 (ah_f h 168) 0 (nI 0) k) (c7 : ah_i hz 167 = ah_i h 167) (c9 : ah_i hz 169 = ah_i h 169) (e5 : ah_f hz (B p0) 5 = nI 0) (e6 : ah_f hz (B p0) 6 = ah_f h (B p0) 6) (j8 : ah_i hz 174 p0 = nI 0) (r : rp hz (B p0) p0) : DONE h hz W S len := by
  obtain ⟨h24, hN, hN2, hP⟩ := x.2.2.2.2.1
  obtain ⟨x1, x2, pt1, ww, -, hh⟩ := (hP p0 hp0).2
  refine D_pic x hp0 FF (fun _ _ => rfl) (FC_of x.1 ?_ ?_ ?_ ?_ ?_ c7 c9) ⟨x1, by omega, pt_q pt1 nn kk rr, ww, r, hp_0 hh (fun _ _ => rfl) e5 e6 (by rw [rr]) j8 (fun T t => ?_) (by omega)⟩ (by omega)
  · rw [k0, k1, u1_s, u1_s]
  · rw [k0, u1_n _ _ (by decide)]
  · rw [k0, u1_n _ _ (by decide)]
  · rw [k1, u1_n _ _ (by decide)]
  · rw [k1, u1_n _ _ (by decide)]
  · unfold ah_x at t ⊢
    rw [nn, kk]
    exact t
theorem st_end (x : R0 h W N B S len) (p c i : Int32) : ST yX11_end mX11_end yX12_end mX12_end (d + 2) (d + 2) [.int p, .int c, .int i] h bc bs W S len := by
  have K := x.2.1
  obtain ⟨h24, hN, hN2, hP⟩ := x.2.2.2.2.1
  refine X11_end_e (X11_end_0 ?_)
  by_cases hp : ix p N
  · obtain ⟨p0, hp0, rfl⟩ := ix_of hp (by omega)
    obtain ⟨x1, x2, pt1, ww, ⟨n, l, y1, y2, y3, y4, y5, y6, y7, y8, y9⟩, hh⟩ := (hP p0 hp0).2
    have hq := (hP p0 hp0).1
    have hp24 : p0 < 24 := by omega
    have hp36 : p0 < 368 := by omega
    have h40 := y6.1
    obtain ⟨w, hw, wy⟩ := WY_ex y6 c i
    have wv := whyV pt1 y1 h40 wy
    have wc := whyC pt1 y1 h40 c i
    by_cases w0 : w = 0
    · subst w0
      rw [if_pos rfl] at wv
      rcases wy with ⟨-, e⟩ | ⟨-, -, -, -, e⟩ | ⟨c0, l', hc0, ec, hl, q, x⟩
      · omega
      · omega
      · rcases x with ⟨-, e⟩ | ⟨i0, hi0, ei, -⟩
        · omega
        · subst ec
          subst ei
          simp (disch := omega) only [o0 K, hasPC K, hasP hN h24, hp, r0_0 K, s1 K, hq, hp24, wc, wv, pt_o pt1, pt_r0 pt1, pt_r1 pt1, pt_s0 pt1, pt_s1 pt1, pt_t0 pt1, pt_t1 pt1, grC K, grV, grH, forall_eq, Option.some.injEq, exists_eq_left', Option.getD_some, Value.int.injEq, Value.long.injEq, not_true_eq_false, not_false_eq_true, false_implies, true_implies, forall_const, implies_true, and_true, true_and, Classical.not_not, il_0, il_1, il_2, il_3, il_4, il_5, il_6, il_7, il_8, il_9, il_10, il_11, il_12, il_13, il_14, il_15, il_16, il_17, il_18, il_19, il_20, il_24, il_30, il_31, il_38, il_39, il_40, il_41, il_48, il_50, il_59, il_60, il_63, il_64, il_70, il_80, il_99, il_100, il_120, il_130, il_140, il_144, il_159, il_160, il_162, il_200, il_210, il_240, il_264, il_280, il_281, il_300, il_364, il_368, il_599, il_600, il_601, il_999, il_1610, il_1620, il_1800, il_4000, il_5000, il_7000, il_14500, il_58240, il_1000000, m1_e, nI_1, nI_add, pk_mul, pk_div, pk_sub, nI_clamp, nI_leI, nI_ltI, nI_eq, m1_lt, m1_le, m1_gt, m1_ge, m1_ne, m1_en, ix_nI, im_nI, and1, and3, sh2_, shr2, corner_nI, turned_nI]
          refine ⟨by omega, ?_⟩
          have Kc : sp (cNo h (nI 0)) := K
          have q6 : ah_f (cNo h (nI 0)) 168 6 = nI N := by unfold cNo; rw [f_sf_n _ _ _ _ _ (by decide)]; exact hN2
          have wy2 : WY n (ah_i h (B p0 + 1)) (nI c0) (nI i0) 0 := Or.inr (Or.inr ⟨c0, l', hc0, rfl, hl, q, Or.inr ⟨i0, hi0, rfl, rfl⟩⟩)
          have lv := lacksV (L := ah_i h (B p0 + 1)) Kc hp36 y2 h40 y7 wy2
          have lc := lacksC Kc hp36 y2 h40 (nI c0) (nI i0)
          have hA : ah_i (cNo h (nI 0)) 173 (160 * p0 + 4 * c0 + i0) = ah_i h (B p0 + 2) (4 * c0 + i0) := by
            show ah_i h 173 (160 * p0 + 4 * c0 + i0) = _
            rw [Nat.add_assoc]
            exact y8 _ (by omega)
          refine X12_end_e (X12_end_0 ?_)
          simp +decide (disch := omega) only [o168 Kc, isPC Kc, isP_ q6 h24, hp, lv, lc, r168_5 Kc, s173 Kc, hA, weC Kc, weV, weH, forall_eq, Option.some.injEq, exists_eq_left', Option.getD_some, Value.int.injEq, Value.long.injEq, not_true_eq_false, not_false_eq_true, false_implies, true_implies, forall_const, implies_true, and_true, true_and, Classical.not_not, il_0, il_1, il_2, il_3, il_4, il_5, il_6, il_7, il_8, il_9, il_10, il_11, il_12, il_13, il_14, il_15, il_16, il_17, il_18, il_19, il_20, il_24, il_30, il_31, il_38, il_39, il_40, il_41, il_48, il_50, il_59, il_60, il_63, il_64, il_70, il_80, il_99, il_100, il_120, il_130, il_140, il_144, il_159, il_160, il_162, il_200, il_210, il_240, il_264, il_280, il_281, il_300, il_364, il_368, il_599, il_600, il_601, il_999, il_1610, il_1620, il_1800, il_4000, il_5000, il_7000, il_14500, il_58240, il_1000000, m1_e, nI_1, nI_add, pk_mul, pk_div, pk_sub, nI_clamp, nI_leI, nI_ltI, nI_eq, m1_lt, m1_le, m1_gt, m1_ge, m1_ne, m1_en, ix_nI, im_nI, and1, and3, sh2_, shr2, corner_nI, turned_nI]
          exact ⟨by omega, D_no x (fcs_refl h) (nI 0) (fms_refl _)⟩
    · rw [if_neg w0] at wv
      have nz : ¬ (-nI (10 + w) : Int32) = nI 0 := fun z => by
        have := congrArg Int32.toInt z
        rw [ng_i (by omega), nI_toInt (by decide)] at this
        omega
      simp (disch := omega) only [o0 K, hasPC K, hasP hN h24, hp, r0_0 K, s1 K, hq, hp24, wc, wv, nz, forall_eq, Option.some.injEq, exists_eq_left', Option.getD_some, Value.int.injEq, Value.long.injEq, not_true_eq_false, not_false_eq_true, false_implies, true_implies, forall_const, implies_true, and_true, true_and, Classical.not_not, il_0, il_1, il_2, il_3, il_4, il_5, il_6, il_7, il_8, il_9, il_10, il_11, il_12, il_13, il_14, il_15, il_16, il_17, il_18, il_19, il_20, il_24, il_30, il_31, il_38, il_39, il_40, il_41, il_48, il_50, il_59, il_60, il_63, il_64, il_70, il_80, il_99, il_100, il_120, il_130, il_140, il_144, il_159, il_160, il_162, il_200, il_210, il_240, il_264, il_280, il_281, il_300, il_364, il_368, il_599, il_600, il_601, il_999, il_1610, il_1620, il_1800, il_4000, il_5000, il_7000, il_14500, il_58240, il_1000000, m1_e, nI_1, nI_add, pk_mul, pk_div, pk_sub, nI_clamp, nI_leI, nI_ltI, nI_eq, m1_lt, m1_le, m1_gt, m1_ge, m1_ne, m1_en, ix_nI, im_nI, and1, and3, sh2_, shr2, corner_nI, turned_nI]
      refine c_f K w (by omega) (by omega) ⟨_, rfl, ?_⟩
      have Kc : sp (cF h w) := K
      have q6 : ah_f (cF h w) 168 6 = nI N := by unfold cF; rw [f_si, f_sf_n _ _ _ _ _ (by decide)]; exact hN2
      have z2 : ah_i (cF h w) 170 p0 = nI n := by unfold cF; rw [i_si_n _ _ _ _ _ (by decide), i_sf]; exact y2
      have z7 : ∀ c, c < n → ah_i (cF h w) 172 (40 * p0 + c) = ah_i h (B p0 + 1) c := fun c hc => by unfold cF; rw [i_si_n _ _ _ _ _ (by decide), i_sf]; exact y7 c hc
      have lv := lacksV (L := ah_i h (B p0 + 1)) Kc hp36 z2 h40 z7 wy
      have lc := lacksC Kc hp36 z2 h40 c i
      have nle : ¬ w ≤ 0 := by omega
      refine X12_end_e (X12_end_0 ?_)
      simp (disch := omega) only [o168 Kc, isPC Kc, isP_ q6 h24, hp, lv, lc, nle, meC Kc, meH Kc, meV, forall_eq, Option.some.injEq, exists_eq_left', Option.getD_some, Value.int.injEq, Value.long.injEq, not_true_eq_false, not_false_eq_true, false_implies, true_implies, forall_const, implies_true, and_true, true_and, Classical.not_not, il_0, il_1, il_2, il_3, il_4, il_5, il_6, il_7, il_8, il_9, il_10, il_11, il_12, il_13, il_14, il_15, il_16, il_17, il_18, il_19, il_20, il_24, il_30, il_31, il_38, il_39, il_40, il_41, il_48, il_50, il_59, il_60, il_63, il_64, il_70, il_80, il_99, il_100, il_120, il_130, il_140, il_144, il_159, il_160, il_162, il_200, il_210, il_240, il_264, il_280, il_281, il_300, il_364, il_368, il_599, il_600, il_601, il_999, il_1610, il_1620, il_1800, il_4000, il_5000, il_7000, il_14500, il_58240, il_1000000, m1_e, nI_1, nI_add, pk_mul, pk_div, pk_sub, nI_clamp, nI_leI, nI_ltI, nI_eq, m1_lt, m1_le, m1_gt, m1_ge, m1_ne, m1_en, ix_nI, im_nI, and1, and3, sh2_, shr2, corner_nI, turned_nI]
      exact D_f x (fcs_refl h) (by omega) (by omega) (fms_refl _)
  · simp only [o0 K, hasPC K, hasP hN h24, hp, forall_eq, Option.some.injEq, exists_eq_left', Option.getD_some, Value.int.injEq, Value.long.injEq, not_true_eq_false, not_false_eq_true, false_implies, true_implies, forall_const, implies_true, and_true, true_and, Classical.not_not, il_0, il_1, il_2, il_3, il_4, il_5, il_6, il_7, il_8, il_9, il_10, il_11, il_12, il_13, il_14, il_15, il_16, il_17, il_18, il_19, il_20, il_24, il_30, il_31, il_38, il_39, il_40, il_41, il_48, il_50, il_59, il_60, il_63, il_64, il_70, il_80, il_99, il_100, il_120, il_130, il_140, il_144, il_159, il_160, il_162, il_200, il_210, il_240, il_264, il_280, il_281, il_300, il_364, il_368, il_599, il_600, il_601, il_999, il_1610, il_1620, il_1800, il_4000, il_5000, il_7000, il_14500, il_58240, il_1000000]
    refine c_no K 2 (by decide) ⟨_, rfl, ?_⟩
    have Kc : sp (cNo h (-nI 2)) := K
    have q6 : ah_f (cNo h (-nI 2)) 168 6 = nI N := by unfold cNo; rw [f_sf_n _ _ _ _ _ (by decide)]; exact hN2
    refine X12_end_e (X12_end_0 ?_)
    simp only [o168 Kc, isPC Kc, isP_ q6 h24, hp, noC Kc, noV, noH, forall_eq, Option.some.injEq, exists_eq_left', Option.getD_some, Value.int.injEq, Value.long.injEq, not_true_eq_false, not_false_eq_true, false_implies, true_implies, forall_const, implies_true, and_true, true_and, Classical.not_not, il_0, il_1, il_2, il_3, il_4, il_5, il_6, il_7, il_8, il_9, il_10, il_11, il_12, il_13, il_14, il_15, il_16, il_17, il_18, il_19, il_20, il_24, il_30, il_31, il_38, il_39, il_40, il_41, il_48, il_50, il_59, il_60, il_63, il_64, il_70, il_80, il_99, il_100, il_120, il_130, il_140, il_144, il_159, il_160, il_162, il_200, il_210, il_240, il_264, il_280, il_281, il_300, il_364, il_368, il_599, il_600, il_601, il_999, il_1610, il_1620, il_1800, il_4000, il_5000, il_7000, il_14500, il_58240, il_1000000]
    exact D_no x (fcs_refl h) _ (fms_refl _)
/-- what is left behind the class's part of a change of picture p0, and behind the reference's -/
theorem st_put (x : R0 h W N B S len) (p c i v : Int32) : ST yX11_put mX11_put yX12_put mX12_put (d + 2) (d + 2) [.int p, .int c, .int i, .int v] h bc bs W S len := by
  have K := x.2.1
  obtain ⟨h24, hN, hN2, hP⟩ := x.2.2.2.2.1
  refine X11_put_e (X11_put_0 ?_)
  by_cases hall : ix p N ∧ ar v
  · obtain ⟨hp, hv⟩ := hall
    obtain ⟨p0, hp0, rfl⟩ := ix_of hp (by omega)
    obtain ⟨x1, x2, pt1, ⟨w0_, w1, w2⟩, ⟨n, l, y1, y2, y3, y4, y5, y6, y7, y8, y9⟩, hh⟩ := (hP p0 hp0).2
    have hq := (hP p0 hp0).1
    have hp24 : p0 < 24 := by omega
    have hp36 : p0 < 368 := by omega
    have h40 := y6.1
    have bx := pt1.1
    obtain ⟨w, hw, wy⟩ := WY_ex y6 c i
    have wv := whyV pt1 y1 h40 wy
    have wc := whyC pt1 y1 h40 c i
    by_cases w0 : w = 0
    · subst w0
      rw [if_pos rfl] at wv
      rcases wy with ⟨-, e⟩ | ⟨-, -, -, -, e⟩ | ⟨c0, l', hc0, ec, hl, q, z⟩
      · omega
      · omega
      · rcases z with ⟨-, e⟩ | ⟨i0, hi0, ei, -⟩
        · omega
        · subst ec
          subst ei
          have F0 : fr [B p0, B p0 + 1, B p0 + 2] h (X7_forget_H (B p0) h) := fr_sf (fr_refl _ h) (by simp only [List.mem_cons, List.not_mem_nil, or_false, true_or, or_true, not_true_eq_false] <;> omega)
          have g0 : ah_f (X7_forget_H (B p0) h) (B p0) = u1 (ah_f h (B p0)) 5 (nI 0) := f_sf_s _ _ _ _
          have gi : ah_i (X7_forget_H (B p0) h) = ah_i h := rfl
          have p0t : pt (X7_forget_H (B p0) h) (B p0) := pt_fr pt1 F0
          have Ka := sp_fr K F0
          have hqa : ah_q (X7_forget_H (B p0) h) 1 p0 = some (B p0) := hq
          have fgc : X7_forget_C (B p0) h := ⟨pt_o pt1, trivial⟩
          simp (disch := omega) only [o0 K, hasPC K, hasP hN h24, hp, cArc, hv, r0_0 K, s1 K, hq, hp24, wc, wv, pt_o pt1, fgc, forall_eq, Option.some.injEq, exists_eq_left', Option.getD_some, Value.int.injEq, Value.long.injEq, not_true_eq_false, not_false_eq_true, false_implies, true_implies, forall_const, implies_true, and_true, true_and, Classical.not_not, il_0, il_1, il_2, il_3, il_4, il_5, il_6, il_7, il_8, il_9, il_10, il_11, il_12, il_13, il_14, il_15, il_16, il_17, il_18, il_19, il_20, il_24, il_30, il_31, il_38, il_39, il_40, il_41, il_48, il_50, il_59, il_60, il_63, il_64, il_70, il_80, il_99, il_100, il_120, il_130, il_140, il_144, il_159, il_160, il_162, il_200, il_210, il_240, il_264, il_280, il_281, il_300, il_364, il_368, il_599, il_600, il_601, il_999, il_1610, il_1620, il_1800, il_4000, il_5000, il_7000, il_14500, il_58240, il_1000000, m1_e, nI_1, nI_add, pk_mul, pk_div, pk_sub, nI_clamp, nI_leI, nI_ltI, nI_eq, m1_lt, m1_le, m1_gt, m1_ge, m1_ne, m1_en, ix_nI, im_nI, and1, and3, sh2_, shr2, corner_nI, turned_nI]
          generalize X7_forget_H (B p0) h = ha at F0 g0 gi p0t Ka hqa ⊢
          simp (disch := omega) only [o0 Ka, r0_0 Ka, s1 Ka, hqa, hp24, pt_o p0t, pt_r0 p0t, pt_r1 p0t, pt_s0 p0t, pt_s1 p0t, pt_t0 p0t, pt_t1 p0t, grV, grH, forall_eq, Option.some.injEq, exists_eq_left', Option.getD_some, Value.int.injEq, Value.long.injEq, not_true_eq_false, not_false_eq_true, false_implies, true_implies, forall_const, implies_true, and_true, true_and, Classical.not_not, il_0, il_1, il_2, il_3, il_4, il_5, il_6, il_7, il_8, il_9, il_10, il_11, il_12, il_13, il_14, il_15, il_16, il_17, il_18, il_19, il_20, il_24, il_30, il_31, il_38, il_39, il_40, il_41, il_48, il_50, il_59, il_60, il_63, il_64, il_70, il_80, il_99, il_100, il_120, il_130, il_140, il_144, il_159, il_160, il_162, il_200, il_210, il_240, il_264, il_280, il_281, il_300, il_364, il_368, il_599, il_600, il_601, il_999, il_1610, il_1620, il_1800, il_4000, il_5000, il_7000, il_14500, il_58240, il_1000000, m1_e, nI_1, nI_add, pk_mul, pk_div, pk_sub, nI_clamp, nI_leI, nI_ltI, nI_eq, m1_lt, m1_le, m1_gt, m1_ge, m1_ne, m1_en, ix_nI, im_nI, and1, and3, sh2_, shr2, corner_nI, turned_nI]
          refine ⟨by omega, ⟨o0 Ka, trivial⟩, ?_⟩
          have F2 : fr [B p0, B p0 + 1, B p0 + 2] h (ah_si ha (B p0 + 2) (4 * c0 + i0) v) := fr_si F0 (by simp only [List.mem_cons, List.not_mem_nil, or_false, true_or, or_true, not_true_eq_false] <;> omega)
          have gb : ah_i (ah_si ha (B p0 + 2) (4 * c0 + i0) v) (B p0 + 2) = u1 (ah_i h (B p0 + 2)) (4 * c0 + i0) v := by rw [i_si_s, gi]
          have gb1 : ah_i (ah_si ha (B p0 + 2) (4 * c0 + i0) v) (B p0 + 1) = ah_i h (B p0 + 1) := by rw [i_si_n _ _ _ _ _ (by omega), gi]
          have gf : ah_f (ah_si ha (B p0 + 2) (4 * c0 + i0) v) (B p0) = u1 (ah_f h (B p0)) 5 (nI 0) := by rw [f_si]; exact g0
          generalize ah_si ha (B p0 + 2) (4 * c0 + i0) v = hb at F2 gb gb1 gf ⊢
          have fb : fp p0 W h (cNo hb (nI 0)) := fp_trans (fp_fr F2 (fun a ha => by
            simp only [List.mem_cons, List.not_mem_nil, or_false] at ha
            rcases ha with e | e | e
            · rw [e]; exact ⟨x1, by omega, w0_⟩
            · rw [e]; exact ⟨by omega, by omega, w1⟩
            · rw [e]; exact ⟨by omega, by omega, w2⟩)) (fp_f0 (by omega))
          have K1 := fb.2.2.2.2.1 K
          have q6 := (fb.2.2.2.1 6 (by decide) (by decide) (by decide) (by decide)).trans hN2
          have m170 : ah_i (cNo hb (nI 0)) 170 = ah_i h 170 := by rw [i_cNo]; exact fr_i F2 170 (by simp only [List.mem_cons, List.not_mem_nil, or_false, true_or, or_true, not_true_eq_false] <;> omega)
          have m171 : ah_i (cNo hb (nI 0)) 171 = ah_i h 171 := by rw [i_cNo]; exact fr_i F2 171 (by simp only [List.mem_cons, List.not_mem_nil, or_false, true_or, or_true, not_true_eq_false] <;> omega)
          have m172 : ah_i (cNo hb (nI 0)) 172 = ah_i h 172 := by rw [i_cNo]; exact fr_i F2 172 (by simp only [List.mem_cons, List.not_mem_nil, or_false, true_or, or_true, not_true_eq_false] <;> omega)
          have m173 : ah_i (cNo hb (nI 0)) 173 = ah_i h 173 := by rw [i_cNo]; exact fr_i F2 173 (by simp only [List.mem_cons, List.not_mem_nil, or_false, true_or, or_true, not_true_eq_false] <;> omega)
          have wy2 : WY n (ah_i h (B p0 + 1)) (nI c0) (nI i0) 0 := Or.inr (Or.inr ⟨c0, l', hc0, rfl, hl, q, Or.inr ⟨i0, hi0, rfl, rfl⟩⟩)
          have lv := lacksV (L := ah_i h (B p0 + 1)) K1 hp36 (by rw [m170]; exact y2) h40 (by rw [m172]; exact y7) wy2
          have lc := lacksC K1 hp36 (by rw [m170]; exact y2) h40 (nI c0) (nI i0)
          refine X12_put_e (X12_put_0 ?_)
          simp +decide (disch := omega) only [o168 K1, isPC K1, isP_ q6 h24, hp, mArc, mArcC, hv, lv, lc, r168_5 K1, t173 K1, r168_7 K1, t174 K1, weV, weH, hp24, n_sf, k_sf, f_sf_s, f_sf_n, r_sf, i_sf, l_sf, q_sf, ld0_sf, st0_sf, ld1_sf, ld2_sf, ld3_sf, ah_o_sf, in__sf, cp__sf, ah_x_sf, ah_ra_sf, n_si, k_si, f_si, r_si, i_si_s, i_si_n, l_si, q_si, ld0_si, st0_si, ld1_si, ld2_si, ld3_si, ah_o_si, in__si, cp__si, ah_x_si, ah_ra_si, n_sl, k_sl, f_sl, r_sl, i_sl, l_sl_s, l_sl_n, q_sl, ld0_sl, st0_sl, ld1_sl, ld2_sl, ld3_sl, ah_o_sl, in__sl, cp__sl, ah_x_sl, ah_ra_sl, n_wi, k_wi, f_wi, r_wi, i_wi_s, i_wi_n, l_wi, q_wi, ld0_wi, st0_wi, ld1_wi, ld2_wi, ld3_wi, ah_o_wi, in__wi, cp__wi, ah_x_wi, ah_ra_wi, n_wl, k_wl, f_wl, r_wl, i_wl, l_wl_s, l_wl_n, q_wl, ld0_wl, st0_wl, ld1_wl, ld2_wl, ld3_wl, ah_o_wl, in__wl, cp__wl, ah_x_wl, ah_ra_wl, n_sr, k_sr, f_sr, r_sr_s, r_sr_n, i_sr, l_sr, q_sr, n_sq, k_sq, f_sq, r_sq, i_sq, l_sq, q_sq_s, q_sq_n, forall_eq, Option.some.injEq, exists_eq_left', Option.getD_some, Value.int.injEq, Value.long.injEq, not_true_eq_false, not_false_eq_true, false_implies, true_implies, forall_const, implies_true, and_true, true_and, Classical.not_not, il_0, il_1, il_2, il_3, il_4, il_5, il_6, il_7, il_8, il_9, il_10, il_11, il_12, il_13, il_14, il_15, il_16, il_17, il_18, il_19, il_20, il_24, il_30, il_31, il_38, il_39, il_40, il_41, il_48, il_50, il_59, il_60, il_63, il_64, il_70, il_80, il_99, il_100, il_120, il_130, il_140, il_144, il_159, il_160, il_162, il_200, il_210, il_240, il_264, il_280, il_281, il_300, il_364, il_368, il_599, il_600, il_601, il_999, il_1610, il_1620, il_1800, il_4000, il_5000, il_7000, il_14500, il_58240, il_1000000, m1_e, nI_1, nI_add, pk_mul, pk_div, pk_sub, nI_clamp, nI_leI, nI_ltI, nI_eq, m1_lt, m1_le, m1_gt, m1_ge, m1_ne, m1_en, ix_nI, im_nI, and1, and3, sh2_, shr2, corner_nI, turned_nI]
          refine ⟨by omega, ⟨o168 K1, trivial⟩, ?_⟩
          have fc : fp p0 W (cNo hb (nI 0)) (mNo (ah_si (ah_si (cNo hb (nI 0)) 173 (160 * p0 + 4 * c0 + i0) v) 174 p0 (nI 0)) (nI 0)) := fp_trans (fp_trans (fp_173 (by omega) (by omega)) fp_174) (fp_f168 (by omega))
          refine D_edit x hp0 (fp_trans fb fc) ?_ ?_ ?_ ?_ ?_ ?_ ?_ ?_ ?_ ?_ ?_
          · rw [n_mNo, n_si, n_si, n_cNo]; exact F2.1.1
          · rw [k_mNo, k_si, k_si, k_cNo]; exact F2.1.2.1
          · rw [r_mNo, r_si, r_si, r_cNo]; exact F2.1.2.2.1
          · intro k
            unfold mNo
            rw [f_sf_n _ _ _ _ _ (by decide), f_si, f_si]
            unfold cNo
            rw [f_sf_s, fr_f F2 0 (by simp only [List.mem_cons, List.not_mem_nil, or_false, true_or, or_true, not_true_eq_false] <;> omega)]
          · intro k
            unfold mNo
            rw [f_sf_s, f_si, f_si]
            unfold cNo
            rw [f_sf_n _ _ _ _ _ (by decide), fr_f F2 168 (by simp only [List.mem_cons, List.not_mem_nil, or_false, true_or, or_true, not_true_eq_false] <;> omega)]
          · rw [i_mNo, i_si_n _ _ _ _ _ (by decide), i_si_n _ _ _ _ _ (by decide), i_cNo]
            exact fr_i F2 167 (by simp only [List.mem_cons, List.not_mem_nil, or_false, true_or, or_true, not_true_eq_false] <;> omega)
          · rw [i_mNo, i_si_n _ _ _ _ _ (by decide), i_si_n _ _ _ _ _ (by decide), i_cNo]
            exact fr_i F2 169 (by simp only [List.mem_cons, List.not_mem_nil, or_false, true_or, or_true, not_true_eq_false] <;> omega)
          · unfold mNo
            rw [f_sf_n _ _ _ _ _ (by omega), f_si, f_si]
            unfold cNo
            rw [f_sf_n _ _ _ _ _ (by omega), gf, u1_s]
          · unfold mNo
            rw [f_sf_n _ _ _ _ _ (by omega), f_si, f_si]
            unfold cNo
            rw [f_sf_n _ _ _ _ _ (by omega), gf, u1_n _ _ (by decide)]
          · rw [i_mNo, i_si_s, u1_s]
          · have j2 : ah_i (mNo (ah_si (ah_si (cNo hb (nI 0)) 173 (160 * p0 + 4 * c0 + i0) v) 174 p0 (nI 0)) (nI 0)) (B p0 + 2) = u1 (ah_i h (B p0 + 2)) (4 * c0 + i0) v := by
              rw [i_mNo, i_si_n _ _ _ _ _ (by omega), i_si_n _ _ _ _ _ (by omega), i_cNo]
              exact gb
            have j1 : ah_i (mNo (ah_si (ah_si (cNo hb (nI 0)) 173 (160 * p0 + 4 * c0 + i0) v) 174 p0 (nI 0)) (nI 0)) (B p0 + 1) = ah_i h (B p0 + 1) := by
              rw [i_mNo, i_si_n _ _ _ _ _ (by omega), i_si_n _ _ _ _ _ (by omega), i_cNo]
              exact gb1
            have j3 : ah_f (mNo (ah_si (ah_si (cNo hb (nI 0)) 173 (160 * p0 + 4 * c0 + i0) v) 174 p0 (nI 0)) (nI 0)) (B p0) = u1 (ah_f h (B p0)) 5 (nI 0) := by
              unfold mNo
              rw [f_sf_n _ _ _ _ _ (by omega), f_si, f_si]
              unfold cNo
              rw [f_sf_n _ _ _ _ _ (by omega), gf]
            have j5 : ∀ a, a = 170 ∨ a = 171 ∨ a = 172 → ah_i (mNo (ah_si (ah_si (cNo hb (nI 0)) 173 (160 * p0 + 4 * c0 + i0) v) 174 p0 (nI 0)) (nI 0)) a = ah_i h a := fun a ha => by
              rw [i_mNo, i_si_n _ _ _ _ _ (by omega), i_si_n _ _ _ _ _ (by omega), i_cNo]
              exact fr_i F2 a (by simp only [List.mem_cons, List.not_mem_nil, or_false, true_or, or_true, not_true_eq_false] <;> omega)
            have j7 : ah_i (mNo (ah_si (ah_si (cNo hb (nI 0)) 173 (160 * p0 + 4 * c0 + i0) v) 174 p0 (nI 0)) (nI 0)) 173 = u1 (ah_i h 173) (160 * p0 + 4 * c0 + i0) v := by
              rw [i_mNo, i_si_n _ _ _ _ _ (by decide), i_si_s, m173]
            refine ⟨n, l, ?_, ?_, y3, ?_, ?_, ?_, ?_, ?_, ?_⟩
            · rw [j3, u1_n _ _ (by decide)]; exact y1
            · rw [j5 170 (by omega)]; exact y2
            · rw [j3, u1_n _ _ (by decide)]; exact y4
            · rw [j5 171 (by omega)]; exact y5
            · rw [j1, j2]
              refine ⟨h40, y6.2.1, fun e he => ?_⟩
              by_cases z : e = 4 * c0 + i0
              · rw [z, u1_s]; exact ar_c.mp hv
              · rw [u1_n _ _ z]; exact y6.2.2 e he
            · rw [j1, j5 172 (by omega)]; exact y7
            · rw [j2, j7]
              intro e he
              by_cases z : e = 4 * c0 + i0
              · rw [z, u1_s, show 160 * p0 + (4 * c0 + i0) = 160 * p0 + 4 * c0 + i0 by omega, u1_s]
              · rw [u1_n _ _ z, u1_n _ _ (by omega)]; exact y8 e he
            · rw [j1, j2]
              intro c' i' hc' hi' hl'
              have : 4 * c' + i' ≠ 4 * c0 + i0 := fun z => by
                have e1 : c' = c0 := by omega
                subst e1
                have := hl' l' hl q
                omega
              rw [u1_n _ _ this]
              exact y9 c' i' hc' hi' hl'
    · rw [if_neg w0] at wv
      have nz : ¬ (-nI (10 + w) : Int32) = nI 0 := fun z => by
        have := congrArg Int32.toInt z
        rw [ng_i (by omega), nI_toInt (by decide)] at this
        omega
      simp (disch := omega) only [o0 K, hasPC K, hasP hN h24, hp, cArc, hv, r0_0 K, s1 K, hq, hp24, wc, wv, nz, forall_eq, Option.some.injEq, exists_eq_left', Option.getD_some, Value.int.injEq, Value.long.injEq, not_true_eq_false, not_false_eq_true, false_implies, true_implies, forall_const, implies_true, and_true, true_and, Classical.not_not, il_0, il_1, il_2, il_3, il_4, il_5, il_6, il_7, il_8, il_9, il_10, il_11, il_12, il_13, il_14, il_15, il_16, il_17, il_18, il_19, il_20, il_24, il_30, il_31, il_38, il_39, il_40, il_41, il_48, il_50, il_59, il_60, il_63, il_64, il_70, il_80, il_99, il_100, il_120, il_130, il_140, il_144, il_159, il_160, il_162, il_200, il_210, il_240, il_264, il_280, il_281, il_300, il_364, il_368, il_599, il_600, il_601, il_999, il_1610, il_1620, il_1800, il_4000, il_5000, il_7000, il_14500, il_58240, il_1000000, m1_e, nI_1, nI_add, pk_mul, pk_div, pk_sub, nI_clamp, nI_leI, nI_ltI, nI_eq, m1_lt, m1_le, m1_gt, m1_ge, m1_ne, m1_en, ix_nI, im_nI, and1, and3, sh2_, shr2, corner_nI, turned_nI]
      refine c_f K w (by omega) (by omega) ⟨_, rfl, ?_⟩
      have Kc : sp (cF h w) := K
      have q6 : ah_f (cF h w) 168 6 = nI N := by unfold cF; rw [f_si, f_sf_n _ _ _ _ _ (by decide)]; exact hN2
      have z2 : ah_i (cF h w) 170 p0 = nI n := by unfold cF; rw [i_si_n _ _ _ _ _ (by decide), i_sf]; exact y2
      have z7 : ∀ c, c < n → ah_i (cF h w) 172 (40 * p0 + c) = ah_i h (B p0 + 1) c := fun c hc => by unfold cF; rw [i_si_n _ _ _ _ _ (by decide), i_sf]; exact y7 c hc
      have lv := lacksV (L := ah_i h (B p0 + 1)) Kc hp36 z2 h40 z7 wy
      have lc := lacksC Kc hp36 z2 h40 c i
      have nle : ¬ w ≤ 0 := by omega
      refine X12_put_e (X12_put_0 ?_)
      simp (disch := omega) only [o168 Kc, isPC Kc, isP_ q6 h24, hp, mArc, mArcC, hv, lv, lc, nle, meC Kc, meH Kc, meV, forall_eq, Option.some.injEq, exists_eq_left', Option.getD_some, Value.int.injEq, Value.long.injEq, not_true_eq_false, not_false_eq_true, false_implies, true_implies, forall_const, implies_true, and_true, true_and, Classical.not_not, il_0, il_1, il_2, il_3, il_4, il_5, il_6, il_7, il_8, il_9, il_10, il_11, il_12, il_13, il_14, il_15, il_16, il_17, il_18, il_19, il_20, il_24, il_30, il_31, il_38, il_39, il_40, il_41, il_48, il_50, il_59, il_60, il_63, il_64, il_70, il_80, il_99, il_100, il_120, il_130, il_140, il_144, il_159, il_160, il_162, il_200, il_210, il_240, il_264, il_280, il_281, il_300, il_364, il_368, il_599, il_600, il_601, il_999, il_1610, il_1620, il_1800, il_4000, il_5000, il_7000, il_14500, il_58240, il_1000000, m1_e, nI_1, nI_add, pk_mul, pk_div, pk_sub, nI_clamp, nI_leI, nI_ltI, nI_eq, m1_lt, m1_le, m1_gt, m1_ge, m1_ne, m1_en, ix_nI, im_nI, and1, and3, sh2_, shr2, corner_nI, turned_nI]
      exact D_f x (fcs_refl h) (by omega) (by omega) (fms_refl _)
  · have Kc : sp (cNo h (-nI 2)) := K
    have q6 : ah_f (cNo h (-nI 2)) 168 6 = nI N := by unfold cNo; rw [f_sf_n _ _ _ _ _ (by decide)]; exact hN2
    have fin := D_no x (fcs_refl h) (-nI 2) (fms_refl _)
    have mm : ex_S yX12_put mX12_put (d + 2) [.ref 168, .int p, .int c, .int i, .int v] (cNo h (-nI 2)) 0 0 (fun r' h2 => r' = some (.int (-nI 2)) ∧ DONE h h2 W S len) := by
      refine X12_put_e (X12_put_0 ?_)
      simp only [o168 Kc, isPC Kc, isP_ q6 h24, mArc, mArcC, noC Kc, noV, noH, forall_eq, Option.some.injEq, exists_eq_left', Option.getD_some, Value.int.injEq, Value.long.injEq, not_true_eq_false, not_false_eq_true, false_implies, true_implies, forall_const, implies_true, and_true, true_and, Classical.not_not, il_0, il_1, il_2, il_3, il_4, il_5, il_6, il_7, il_8, il_9, il_10, il_11, il_12, il_13, il_14, il_15, il_16, il_17, il_18, il_19, il_20, il_24, il_30, il_31, il_38, il_39, il_40, il_41, il_48, il_50, il_59, il_60, il_63, il_64, il_70, il_80, il_99, il_100, il_120, il_130, il_140, il_144, il_159, il_160, il_162, il_200, il_210, il_240, il_264, il_280, il_281, il_300, il_364, il_368, il_599, il_600, il_601, il_999, il_1610, il_1620, il_1800, il_4000, il_5000, il_7000, il_14500, il_58240, il_1000000]
      exact ⟨fun _ => fin, fun b1 => ⟨fun b2 => absurd ⟨b1, b2⟩ hall, fun _ => fin⟩⟩
    have cc_ : ex_S yX11_refuse mX11_refuse (d + 1) [.ref 0, .int (-nI 2)] h 0 0 (fun r h4 => ∃ x5, r = some (.int x5) ∧ ex_S yX12_put mX12_put (d + 2) [.ref 168, .int p, .int c, .int i, .int v] h4 0 0 (fun r' h2 => r' = some (.int x5) ∧ DONE h h2 W S len)) := c_no K 2 (by decide) ⟨_, rfl, mm⟩
    simp only [o0 K, hasPC K, hasP hN h24, cArc, forall_eq, Option.some.injEq, exists_eq_left', Option.getD_some, Value.int.injEq, Value.long.injEq, not_true_eq_false, not_false_eq_true, false_implies, true_implies, forall_const, implies_true, and_true, true_and, Classical.not_not, il_0, il_1, il_2, il_3, il_4, il_5, il_6, il_7, il_8, il_9, il_10, il_11, il_12, il_13, il_14, il_15, il_16, il_17, il_18, il_19, il_20, il_24, il_30, il_31, il_38, il_39, il_40, il_41, il_48, il_50, il_59, il_60, il_63, il_64, il_70, il_80, il_99, il_100, il_120, il_130, il_140, il_144, il_159, il_160, il_162, il_200, il_210, il_240, il_264, il_280, il_281, il_300, il_364, il_368, il_599, il_600, il_601, il_999, il_1610, il_1620, il_1800, il_4000, il_5000, il_7000, il_14500, il_58240, il_1000000]
    exact ⟨fun _ => cc_, fun b1 => ⟨fun b2 => absurd ⟨b1, b2⟩ hall, fun _ => cc_⟩⟩
end EASY2
