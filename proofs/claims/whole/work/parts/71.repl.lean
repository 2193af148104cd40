/-! A picture that is changed and remembered: remember, replaced. -/
/-- slot t in h' is a copy of slot s in h -/
def sC (h : AH) (s : Nat) (h' : AH) (t : Nat) : Prop := ah_i h' 170 t = ah_i h 170 s ∧ ah_i h' 171 t = ah_i h 171 s ∧ ∀ n, n ≤ 40 → ah_i h 170 s = nI n → (∀ c, c < n → ah_i h' 172 (40 * t + c) = ah_i h 172 (40 * s + c)) ∧ ∀ e, e < 4 * n → ah_i h' 173 (160 * t + e) = ah_i h 173 (160 * s + e)
theorem sC_sl {h h1 h2 : AH} {s t : Nat} (x : sC h s h1 t) {n : Nat} (h40 : n ≤ 40) (hn : ah_i h 170 s = nI n) (y : sl h1 h2 t) : sC h s h2 t := by
  refine ⟨y.1.trans x.1, y.2.1.trans x.2.1, fun n' hn' e => ?_⟩
  have : n' = n := by
    rw [hn, nI_eq (by omega) (by omega)] at e
    exact e.symm
  subst this
  exact ⟨fun c hc => (y.2.2.1 c (by omega)).trans ((x.2.2 n' hn' e).1 c hc), fun e' he => (y.2.2.2 e' (by omega)).trans ((x.2.2 n' hn' e).2 e' he)⟩
theorem sl_sC {h h1 h2 : AH} {s t : Nat} (y : sl h h1 s) (x : sC h1 s h2 t) : sC h s h2 t := by
  refine ⟨x.1.trans y.1, x.2.1.trans y.2.1, fun n hn e => ?_⟩
  have z := x.2.2 n hn (y.1.trans e)
  exact ⟨fun c hc => (z.1 c hc).trans (y.2.2.1 c (by omega)), fun e' he => (z.2 e' he).trans (y.2.2.2 e' (by omega))⟩
theorem sC_of_sl {h h1 : AH} {s : Nat} (y : sl h h1 s) : sC h s h1 s := ⟨y.1, y.2.1, fun n hn _ => ⟨fun c hc => y.2.2.1 c (by omega), fun e he => y.2.2.2 e (by omega)⟩⟩
theorem mD_sC {h h' : AH} {s t n l : Nat} {A : Nat → Nat} (D : mD h s n l A) (h40 : n ≤ 40) (x : sC h s h' t) : mD h' t n l A := by
  have z := x.2.2 n h40 D.1
  exact ⟨x.1.trans D.1, x.2.1.trans D.2.1, fun c hc => (z.1 c hc).trans (D.2.2.1 c hc), fun e he => (z.2 e he).trans (D.2.2.2 e he)⟩
theorem mD_sl {h h' : AH} {s n l : Nat} {A : Nat → Nat} (D : mD h s n l A) (h40 : n ≤ 40) (x : sl h h' s) : mD h' s n l A := mD_sC D h40 (sC_of_sl x)
theorem he_sC {h h' : AH} {T i s t : Nat} (x : he h T i s) (z : sC h s h' t) (eT : ∀ j, j < 162 → ah_i h' T (162 * i + j) = ah_i h T (162 * i + j)) : he h' T i t := by
  obtain ⟨n, l, x1, x2, x3, x4, x5, x6, x7, x8⟩ := x
  have y := z.2.2 n x1 x4
  refine ⟨n, l, x1, x2, ?_, z.1.trans x4, ?_, z.2.1.trans x6, fun c hc => (y.1 c hc).trans (x7 c hc), fun e he => ?_⟩
  · have := eT 0 (by omega)
    rw [Nat.add_zero] at this
    rw [this]
    exact x3
  · rw [eT 1 (by omega)]; exact x5
  · obtain ⟨a, a1, a2, a3⟩ := x8 e he
    refine ⟨a, a1, ?_, (y.2 e he).trans a3⟩
    rw [Nat.add_assoc, eT (2 + e) (by omega), ← Nat.add_assoc]
    exact a2
section REPL
variable {h : AH} {d bc bs : Nat} {Q : Option Value → AH → Prop}
theorem m_copyS (K : sp h) {s t n : Nat} (hs : s < 368) (ht : t < 368) (hst : s ≠ t) (hn : ah_i h 170 s = nI n) (h40 : n ≤ 40) (k : ∀ h', fr [170, 171, 172, 173] h h' → (∀ u, u ≠ t → sl h h' u) → sC h s h' t → Q none h') : ex_S yX12_copySlot mX12_copySlot d [.ref 168, .int (nI s), .int (nI t)] h bc bs Q := by
  refine m_copySlot K hs ht hst hn h40 (fun h' F e0 e1 e2 e3 => k h' F (fun u hu => ⟨by rw [e0, u1_n _ _ hu], by rw [e1, u1_n _ _ hu], fun c hc => by rw [e2, pk_cpy_out (by omega)], fun e he => by rw [e3, pk_cpy_out (by omega)]⟩) ⟨by rw [e0, u1_s, hn], by rw [e1, u1_s], fun n' hn' e => ?_⟩)
  have : n' = n := by
    rw [hn, nI_eq (by omega) (by omega)] at e
    exact e.symm
  subst this
  refine ⟨fun c hc => ?_, fun x hx => ?_⟩
  · rw [e2, pk_cpy_in (by omega) (by omega), show 40 * s + (40 * t + c - 40 * t) = 40 * s + c by omega]
  · rw [e3, pk_cpy_in (by omega) (by omega), show 160 * s + (160 * t + x - 160 * t) = 160 * s + x by omega]
theorem m_repl57 {p hc n l n' l' : Nat} {A A' : Nat → Nat} (K : sp h) (hp : p < 24) (e174 : ah_i h 174 p = nI hc) (h10 : hc < 10) (Dp : mD h p n l A) (h40 : n ≤ 40) (Ds : mD h 364 n' l' A') (h40' : n' ≤ 40)
    (k : ∀ h', fr [170, 171, 172, 173, 174] h h' → (∀ t, t ≠ p → t ≠ 24 + 10 * p + hc → sl h h' t) → (∀ q, q ≠ p → ah_i h' 174 q = ah_i h 174 q) → ah_i h' 174 p = nI (hc + 1) → mD h' p n' l' A' → mD h' (24 + 10 * p + hc) n l A → Q none h') : ex_G mX12_replaced (d + 1) 57 [.ref 168, .int (nI p), .int 364, .retAddr 0] [] h bc bs Q := by
  refine X12_replaced_57 ?_
  simp (disch := omega) only [o168 K, r168_7 K, s174 K, t174 K, e174, forall_eq, Option.some.injEq, exists_eq_left', Option.getD_some, n_sf, k_sf, f_sf_s, f_sf_n, r_sf, i_sf, l_sf, q_sf, ld0_sf, st0_sf, ld1_sf, ld2_sf, ld3_sf, ah_o_sf, in__sf, cp__sf, ah_x_sf, ah_ra_sf, n_si, k_si, f_si, r_si, i_si_s, i_si_n, l_si, q_si, ld0_si, st0_si, ld1_si, ld2_si, ld3_si, ah_o_si, in__si, cp__si, ah_x_si, ah_ra_si, n_sl, k_sl, f_sl, r_sl, i_sl, l_sl_s, l_sl_n, q_sl, ld0_sl, st0_sl, ld1_sl, ld2_sl, ld3_sl, ah_o_sl, in__sl, cp__sl, ah_x_sl, ah_ra_sl, n_wi, k_wi, f_wi, r_wi, i_wi_s, i_wi_n, l_wi, q_wi, ld0_wi, st0_wi, ld1_wi, ld2_wi, ld3_wi, ah_o_wi, in__wi, cp__wi, ah_x_wi, ah_ra_wi, n_wl, k_wl, f_wl, r_wl, i_wl, l_wl_s, l_wl_n, q_wl, ld0_wl, st0_wl, ld1_wl, ld2_wl, ld3_wl, ah_o_wl, in__wl, cp__wl, ah_x_wl, ah_ra_wl, n_sr, k_sr, f_sr, r_sr_s, r_sr_n, i_sr, l_sr, q_sr, n_sq, k_sq, f_sq, r_sq, i_sq, l_sq, q_sq_s, q_sq_n, il_0, il_1, il_2, il_3, il_4, il_5, il_6, il_7, il_8, il_9, il_10, il_11, il_12, il_13, il_14, il_15, il_16, il_17, il_18, il_19, il_20, il_24, il_30, il_31, il_38, il_39, il_40, il_41, il_48, il_50, il_59, il_60, il_63, il_64, il_70, il_80, il_99, il_100, il_120, il_130, il_140, il_144, il_159, il_160, il_162, il_200, il_210, il_240, il_264, il_280, il_281, il_300, il_364, il_368, il_599, il_600, il_601, il_999, il_1610, il_1620, il_1800, il_4000, il_5000, il_7000, il_14500, il_58240, il_1000000, m1_e, nI_1, nI_add, pk_mul, pk_div, pk_sub, nI_clamp, nI_leI, nI_ltI, nI_eq, m1_lt, m1_le, m1_gt, m1_ge, m1_ne, m1_en, ix_nI, im_nI, and1, and3, sh2_, shr2, corner_nI, turned_nI]
  refine ⟨trivial, hp, m_copyS K (by omega) (by omega) (by omega) Dp.1 h40 (fun h1 F1 s1 c1 => ⟨rfl, ?_⟩)⟩
  have K1 := sp_fr K F1
  have e1 : ah_i h1 174 p = nI hc := by rw [fr_i F1 174 (by decide)]; exact e174
  have key : ∀ h2, h2 = ah_si h1 174 p (nI (hc + 1)) → ex_S yX12_copySlot mX12_copySlot d [.ref 168, .int (nI 364), .int (nI p)] h2 0 0 (fun r h10 => r = none ∧ Q none h10) := by
    intro h2 e2
    have F2 : fr [174] h1 h2 := by rw [e2]; exact fr_si (fr_refl _ h1) (by decide)
    have v2 : ah_i h2 174 = u1 (ah_i h1 174) p (nI (hc + 1)) := by rw [e2]; exact i_si_s _ _ _ _
    have K2 := sp_fr K1 F2
    have s2 : ∀ t, sl h1 h2 t := fun t => sl_of t (fr_i F2 170 (by decide)) (fr_i F2 171 (by decide)) (fr_i F2 172 (by decide)) (fr_i F2 173 (by decide))
    have D2 : mD h2 364 n' l' A' := mD_sl (mD_sl Ds h40' (s1 364 (by omega))) h40' (s2 364)
    refine m_copyS K2 (by decide) (by omega) (by omega) D2.1 h40' (fun h3 F3 s3 c3 => ⟨rfl, ?_⟩)
    refine k h3 (fr_trans (fr_mono F1 (by decide)) (fr_trans (fr_mono F2 (by decide)) (fr_mono F3 (by decide)))) (fun t t1 t2 => sl_trans (s1 t t2) (sl_trans (s2 t) (s3 t t1))) (fun q hq => ?_) ?_ (mD_sC D2 h40' c3) ?_
    · rw [fr_i F3 174 (by decide), v2, u1_n _ _ hq, fr_i F1 174 (by decide)]
    · rw [fr_i F3 174 (by decide), v2, u1_s]
    · exact mD_sl (mD_sl (mD_sC Dp h40 c1) h40 (s2 _)) h40 (s3 _ (by omega))
  simp (disch := omega) only [o168 K1, r168_7 K1, s174 K1, t174 K1, e1, forall_eq, Option.some.injEq, exists_eq_left', Option.getD_some, n_sf, k_sf, f_sf_s, f_sf_n, r_sf, i_sf, l_sf, q_sf, ld0_sf, st0_sf, ld1_sf, ld2_sf, ld3_sf, ah_o_sf, in__sf, cp__sf, ah_x_sf, ah_ra_sf, n_si, k_si, f_si, r_si, i_si_s, i_si_n, l_si, q_si, ld0_si, st0_si, ld1_si, ld2_si, ld3_si, ah_o_si, in__si, cp__si, ah_x_si, ah_ra_si, n_sl, k_sl, f_sl, r_sl, i_sl, l_sl_s, l_sl_n, q_sl, ld0_sl, st0_sl, ld1_sl, ld2_sl, ld3_sl, ah_o_sl, in__sl, cp__sl, ah_x_sl, ah_ra_sl, n_wi, k_wi, f_wi, r_wi, i_wi_s, i_wi_n, l_wi, q_wi, ld0_wi, st0_wi, ld1_wi, ld2_wi, ld3_wi, ah_o_wi, in__wi, cp__wi, ah_x_wi, ah_ra_wi, n_wl, k_wl, f_wl, r_wl, i_wl, l_wl_s, l_wl_n, q_wl, ld0_wl, st0_wl, ld1_wl, ld2_wl, ld3_wl, ah_o_wl, in__wl, cp__wl, ah_x_wl, ah_ra_wl, n_sr, k_sr, f_sr, r_sr_s, r_sr_n, i_sr, l_sr, q_sr, n_sq, k_sq, f_sq, r_sq, i_sq, l_sq, q_sq_s, q_sq_n, il_0, il_1, il_2, il_3, il_4, il_5, il_6, il_7, il_8, il_9, il_10, il_11, il_12, il_13, il_14, il_15, il_16, il_17, il_18, il_19, il_20, il_24, il_30, il_31, il_38, il_39, il_40, il_41, il_48, il_50, il_59, il_60, il_63, il_64, il_70, il_80, il_99, il_100, il_120, il_130, il_140, il_144, il_159, il_160, il_162, il_200, il_210, il_240, il_264, il_280, il_281, il_300, il_364, il_368, il_599, il_600, il_601, il_999, il_1610, il_1620, il_1800, il_4000, il_5000, il_7000, il_14500, il_58240, il_1000000, m1_e, nI_1, nI_add, pk_mul, pk_div, pk_sub, nI_clamp, nI_leI, nI_ltI, nI_eq, m1_lt, m1_le, m1_gt, m1_ge, m1_ne, m1_en, ix_nI, im_nI, and1, and3, sh2_, shr2, corner_nI, turned_nI]
  exact ⟨trivial, hp, hp, key _ rfl⟩
theorem m_replaced {p hc n l n' l' : Nat} {A A' : Nat → Nat} (K : sp h) (hp : p < 24) (e174 : ah_i h 174 p = nI hc) (h10 : hc ≤ 10) (Dp : mD h p n l A) (h40 : n ≤ 40) (Ds : mD h 364 n' l' A') (h40' : n' ≤ 40) (hH : ∀ k, k < hc → ∃ nk, nk ≤ 40 ∧ ah_i h 170 (24 + 10 * p + k) = nI nk)
    (k : ∀ h', fr [170, 171, 172, 173, 174] h h' → (∀ t, t ≠ p → ¬ (24 + 10 * p ≤ t ∧ t < 34 + 10 * p) → sl h h' t) → (∀ q, q ≠ p → ah_i h' 174 q = ah_i h 174 q) → ah_i h' 174 p = nI (min (hc + 1) 10) → mD h' p n' l' A' → mD h' (24 + 10 * p + min hc 9) n l A → (∀ j, j < min hc 9 → sC h (24 + 10 * p + j + (if hc = 10 then 1 else 0)) h' (24 + 10 * p + j)) → Q none h') : ex_S yX12_replaced mX12_replaced (d + 1) [.ref 168, .int (nI p), .int 364] h bc bs Q := by
  refine X12_replaced_e (X12_replaced_0 ?_)
  have c10 : nI hc = nI 10 ↔ hc = 10 := nI_eq (by omega) (by omega)
  simp (disch := omega) only [o168 K, r168_7 K, s174 K, t174 K, e174, forall_eq, Option.some.injEq, exists_eq_left', Option.getD_some, n_sf, k_sf, f_sf_s, f_sf_n, r_sf, i_sf, l_sf, q_sf, ld0_sf, st0_sf, ld1_sf, ld2_sf, ld3_sf, ah_o_sf, in__sf, cp__sf, ah_x_sf, ah_ra_sf, n_si, k_si, f_si, r_si, i_si_s, i_si_n, l_si, q_si, ld0_si, st0_si, ld1_si, ld2_si, ld3_si, ah_o_si, in__si, cp__si, ah_x_si, ah_ra_si, n_sl, k_sl, f_sl, r_sl, i_sl, l_sl_s, l_sl_n, q_sl, ld0_sl, st0_sl, ld1_sl, ld2_sl, ld3_sl, ah_o_sl, in__sl, cp__sl, ah_x_sl, ah_ra_sl, n_wi, k_wi, f_wi, r_wi, i_wi_s, i_wi_n, l_wi, q_wi, ld0_wi, st0_wi, ld1_wi, ld2_wi, ld3_wi, ah_o_wi, in__wi, cp__wi, ah_x_wi, ah_ra_wi, n_wl, k_wl, f_wl, r_wl, i_wl, l_wl_s, l_wl_n, q_wl, ld0_wl, st0_wl, ld1_wl, ld2_wl, ld3_wl, ah_o_wl, in__wl, cp__wl, ah_x_wl, ah_ra_wl, n_sr, k_sr, f_sr, r_sr_s, r_sr_n, i_sr, l_sr, q_sr, n_sq, k_sq, f_sq, r_sq, i_sq, l_sq, q_sq_s, q_sq_n, il_0, il_1, il_2, il_3, il_4, il_5, il_6, il_7, il_8, il_9, il_10, il_11, il_12, il_13, il_14, il_15, il_16, il_17, il_18, il_19, il_20, il_24, il_30, il_31, il_38, il_39, il_40, il_41, il_48, il_50, il_59, il_60, il_63, il_64, il_70, il_80, il_99, il_100, il_120, il_130, il_140, il_144, il_159, il_160, il_162, il_200, il_210, il_240, il_264, il_280, il_281, il_300, il_364, il_368, il_599, il_600, il_601, il_999, il_1610, il_1620, il_1800, il_4000, il_5000, il_7000, il_14500, il_58240, il_1000000, nI_clamp, ix_nI, c10]
  refine ⟨trivial, hp, fun w => ?_, fun w => ?_⟩
  · refine m_repl57 K hp e174 (by omega) Dp h40 Ds h40' (fun h' F s1 q1 q2 d1 d2 => k h' F (fun t t1 t2 => s1 t t1 (by omega)) q1 ?_ d1 ?_ (fun j hj => ?_))
    · rw [q2, show min (hc + 1) 10 = hc + 1 by omega]
    · rw [show min hc 9 = hc by omega]; exact d2
    · rw [if_neg w, Nat.add_zero]
      exact sC_of_sl (s1 _ (by omega) (by omega))
  · subst w
    refine lp 9 (fun j h' => fr [170, 171, 172, 173] h h' ∧ (∀ t, ¬ (24 + 10 * p ≤ t ∧ t < 24 + 10 * p + j) → sl h h' t) ∧ ∀ i, i < j → sC h (24 + 10 * p + i + 1) h' (24 + 10 * p + i)) (fun j h' => ex_G mX12_replaced (d + 1) 13 [.ref 168, .int (nI p), .int 364, .int (nI j)] [] h' bc bs Q) ⟨fr_refl _ h, fun t _ => sl_refl h t, fun i hi => absurd hi (Nat.not_lt_zero i)⟩ ?_ ?_
    · rintro j h1 hj ⟨F, s1, c1⟩ nx
      have K1 := sp_fr K F
      obtain ⟨nk, hk, ek⟩ := hH (j + 1) (by omega)
      have ek1 : ah_i h1 170 (24 + 10 * p + j + 1) = nI nk := by
        rw [(s1 (24 + 10 * p + j + 1) (by omega)).1]
        exact ek
      have h9 : ¬ 9 ≤ j := by omega
      refine X12_replaced_13 ?_
      simp (disch := omega) only [o168 K1, forall_eq, Option.some.injEq, exists_eq_left', Option.getD_some, n_sf, k_sf, f_sf_s, f_sf_n, r_sf, i_sf, l_sf, q_sf, ld0_sf, st0_sf, ld1_sf, ld2_sf, ld3_sf, ah_o_sf, in__sf, cp__sf, ah_x_sf, ah_ra_sf, n_si, k_si, f_si, r_si, i_si_s, i_si_n, l_si, q_si, ld0_si, st0_si, ld1_si, ld2_si, ld3_si, ah_o_si, in__si, cp__si, ah_x_si, ah_ra_si, n_sl, k_sl, f_sl, r_sl, i_sl, l_sl_s, l_sl_n, q_sl, ld0_sl, st0_sl, ld1_sl, ld2_sl, ld3_sl, ah_o_sl, in__sl, cp__sl, ah_x_sl, ah_ra_sl, n_wi, k_wi, f_wi, r_wi, i_wi_s, i_wi_n, l_wi, q_wi, ld0_wi, st0_wi, ld1_wi, ld2_wi, ld3_wi, ah_o_wi, in__wi, cp__wi, ah_x_wi, ah_ra_wi, n_wl, k_wl, f_wl, r_wl, i_wl, l_wl_s, l_wl_n, q_wl, ld0_wl, st0_wl, ld1_wl, ld2_wl, ld3_wl, ah_o_wl, in__wl, cp__wl, ah_x_wl, ah_ra_wl, n_sr, k_sr, f_sr, r_sr_s, r_sr_n, i_sr, l_sr, q_sr, n_sq, k_sq, f_sq, r_sq, i_sq, l_sq, q_sq_s, q_sq_n, il_0, il_1, il_2, il_3, il_4, il_5, il_6, il_7, il_8, il_9, il_10, il_11, il_12, il_13, il_14, il_15, il_16, il_17, il_18, il_19, il_20, il_24, il_30, il_31, il_38, il_39, il_40, il_41, il_48, il_50, il_59, il_60, il_63, il_64, il_70, il_80, il_99, il_100, il_120, il_130, il_140, il_144, il_159, il_160, il_162, il_200, il_210, il_240, il_264, il_280, il_281, il_300, il_364, il_368, il_599, il_600, il_601, il_999, il_1610, il_1620, il_1800, il_4000, il_5000, il_7000, il_14500, il_58240, il_1000000, m1_e, nI_1, nI_add, pk_mul, pk_div, pk_sub, nI_clamp, nI_leI, nI_ltI, nI_eq, m1_lt, m1_le, m1_gt, m1_ge, m1_ne, m1_en, ix_nI, im_nI, and1, and3, sh2_, shr2, corner_nI, turned_nI]
      refine ⟨fun z => absurd z h9, fun _ => ⟨trivial, m_copyS K1 (by omega) (by omega) (by omega) ek1 hk (fun h2 F2 s2 c2 => ⟨rfl, nx h2 ⟨fr_trans F F2, fun t ht => sl_trans (s1 t (by omega)) (s2 t (by omega)), fun i hi => ?_⟩⟩)⟩⟩
      by_cases q : i = j
      · subst q
        exact sl_sC (s1 _ (by omega)) c2
      · obtain ⟨ni, hi2, ei⟩ := hH (i + 1) (by omega)
        exact sC_sl (c1 i (by omega)) hi2 ei (s2 _ (by omega))
    · rintro h1 ⟨F, s1, c1⟩
      have K1 := sp_fr K F
      refine X12_replaced_13 ?_
      simp (disch := omega) only [o168 K1, r168_7 K1, s174 K1, t174 K1, forall_eq, Option.some.injEq, exists_eq_left', Option.getD_some, n_sf, k_sf, f_sf_s, f_sf_n, r_sf, i_sf, l_sf, q_sf, ld0_sf, st0_sf, ld1_sf, ld2_sf, ld3_sf, ah_o_sf, in__sf, cp__sf, ah_x_sf, ah_ra_sf, n_si, k_si, f_si, r_si, i_si_s, i_si_n, l_si, q_si, ld0_si, st0_si, ld1_si, ld2_si, ld3_si, ah_o_si, in__si, cp__si, ah_x_si, ah_ra_si, n_sl, k_sl, f_sl, r_sl, i_sl, l_sl_s, l_sl_n, q_sl, ld0_sl, st0_sl, ld1_sl, ld2_sl, ld3_sl, ah_o_sl, in__sl, cp__sl, ah_x_sl, ah_ra_sl, n_wi, k_wi, f_wi, r_wi, i_wi_s, i_wi_n, l_wi, q_wi, ld0_wi, st0_wi, ld1_wi, ld2_wi, ld3_wi, ah_o_wi, in__wi, cp__wi, ah_x_wi, ah_ra_wi, n_wl, k_wl, f_wl, r_wl, i_wl, l_wl_s, l_wl_n, q_wl, ld0_wl, st0_wl, ld1_wl, ld2_wl, ld3_wl, ah_o_wl, in__wl, cp__wl, ah_x_wl, ah_ra_wl, n_sr, k_sr, f_sr, r_sr_s, r_sr_n, i_sr, l_sr, q_sr, n_sq, k_sq, f_sq, r_sq, i_sq, l_sq, q_sq_s, q_sq_n, il_0, il_1, il_2, il_3, il_4, il_5, il_6, il_7, il_8, il_9, il_10, il_11, il_12, il_13, il_14, il_15, il_16, il_17, il_18, il_19, il_20, il_24, il_30, il_31, il_38, il_39, il_40, il_41, il_48, il_50, il_59, il_60, il_63, il_64, il_70, il_80, il_99, il_100, il_120, il_130, il_140, il_144, il_159, il_160, il_162, il_200, il_210, il_240, il_264, il_280, il_281, il_300, il_364, il_368, il_599, il_600, il_601, il_999, il_1610, il_1620, il_1800, il_4000, il_5000, il_7000, il_14500, il_58240, il_1000000, m1_e, nI_1, nI_add, pk_mul, pk_div, pk_sub, nI_clamp, nI_leI, nI_ltI, nI_eq, m1_lt, m1_le, m1_gt, m1_ge, m1_ne, m1_en, ix_nI, im_nI, and1, and3, sh2_, shr2, corner_nI, turned_nI]
      refine ⟨fun _ => ⟨trivial, hp, ?_⟩, fun z => (by first | omega | exact absurd trivial z | exact z.elim | exact absurd rfl z)⟩
      have key : ∀ h2, h2 = ah_si h1 174 p (nI 9) → ex_G mX12_replaced (d + 1) 57 [.ref 168, .int (nI p), .int 364, .retAddr 0] [] h2 bc bs Q := by
        intro h2 e2
        have F2 : fr [174] h1 h2 := by rw [e2]; exact fr_si (fr_refl _ h1) (by decide)
        have v2 : ah_i h2 174 = u1 (ah_i h1 174) p (nI 9) := by rw [e2]; exact i_si_s _ _ _ _
        have K2 := sp_fr K1 F2
        have s2 : ∀ t, sl h1 h2 t := fun t => sl_of t (fr_i F2 170 (by decide)) (fr_i F2 171 (by decide)) (fr_i F2 172 (by decide)) (fr_i F2 173 (by decide))
        refine m_repl57 K2 hp (hc := 9) (by rw [v2, u1_s]) (by omega) (mD_sl (mD_sl Dp h40 (s1 p (by omega))) h40 (s2 p)) h40 (mD_sl (mD_sl Ds h40' (s1 364 (by omega))) h40' (s2 364)) h40' (fun h' F3 s3 q1 q2 d1 d2 => k h' (fr_trans (fr_mono F (by decide)) (fr_trans (fr_mono F2 (by decide)) F3)) (fun t t1 t2 => sl_trans (s1 t (by omega)) (sl_trans (s2 t) (s3 t t1 (by omega)))) (fun q hq => ?_) q2 d1 d2 (fun j hj => ?_))
        · rw [q1 q hq, v2, u1_n _ _ hq, fr_i F 174 (by decide)]
        · rw [if_pos rfl]
          obtain ⟨ni, hi2, ei⟩ := hH (j + 1) (by omega)
          exact sC_sl (c1 j (by omega)) hi2 ei (sl_trans (s2 _) (s3 _ (by omega) (by omega)))
      exact key _ rfl
/-! the class's side -/
theorem n_na (h : AH) (t n : Nat) : ah_n (ah_na h t n) = ah_n h + 1 := of_eq_true (eq_true rfl)
theorem f_na (h : AH) (t n : Nat) : ah_f (ah_na h t n) = ah_f h := of_eq_true (eq_true rfl)
theorem r_na (h : AH) (t n : Nat) : ah_r (ah_na h t n) = ah_r h := of_eq_true (eq_true rfl)
theorem k_na_s (h : AH) (t n : Nat) : ah_k (ah_na h t n) (ah_n h) = (t, n) := u1_s _ _ _
theorem k_na_n (h : AH) (t n : Nat) {b : Nat} (e : b ≠ ah_n h) : ah_k (ah_na h t n) b = ah_k h b := u1_n _ _ e
theorem i_na_n (h : AH) (t n : Nat) {b : Nat} (e : b ≠ ah_n h) : ah_i (ah_na h t n) b = ah_i h b := u1_n _ _ e
theorem l_na_n (h : AH) (t n : Nat) {b : Nat} (e : b ≠ ah_n h) : ah_l (ah_na h t n) b = ah_l h b := u1_n _ _ e
theorem q_na_n (h : AH) (t n : Nat) {b : Nat} (e : b ≠ ah_n h) : ah_q (ah_na h t n) b = ah_q h b := u1_n _ _ e
theorem eqc_na (h : AH) (t n : Nat) {b : Nat} (e : b ≠ ah_n h) : eqc h (ah_na h t n) b := ⟨k_na_n h t n e, by rw [f_na], i_na_n h t n e, l_na_n h t n e, by rw [r_na], q_na_n h t n e⟩
theorem eqc_sr (h : AH) (a k : Nat) (v : Option Nat) {b : Nat} (e : b ≠ a) : eqc h (ah_sr h a k v) b := ⟨by rw [k_sr], by rw [f_sr], by rw [i_sr], by rw [l_sr], r_sr_n _ _ _ _ _ e, by rw [q_sr]⟩
/-- what remember leaves -/
def RM (h h' : AH) (W : Nat → Nat) (b p n l hc nx T : Nat) : Prop := (ah_n h' = ah_n h ∨ (ah_n h' = ah_n h + 1 ∧ T = ah_n h)) ∧ (216 ≤ T ∧ T < ah_n h' ∧ T < 10000000 ∧ ah_x h' T 0 1620 ∧ ah_r h' b 4 = some T ∧ T ≠ b ∧ T ≠ b + 1 ∧ T ≠ b + 2) ∧ (T < ah_n h → W T = p) ∧ (∀ a, a ≠ b → a ≠ T → eqc h h' a) ∧ (ah_k h' b = ah_k h b ∧ ah_f h' b = u1 (u1 (ah_f h b) 6 (nI ((nx + 1) % 10))) 5 (nI (min (hc + 1) 10)) ∧ (∀ k, k ≠ 4 → ah_r h' b k = ah_r h b k)) ∧ (ah_i h' T (162 * nx) = nI n ∧ ah_i h' T (162 * nx + 1) = nI l ∧ ∀ e, e < 160 → ah_i h' T (162 * nx + 2 + e) = ah_i h (b + 2) e) ∧ (0 < hc → ah_r h b 4 = some T ∧ ∀ i, i < 10 → i ≠ nx → ∀ j, j < 162 → ah_i h' T (162 * i + j) = ah_i h T (162 * i + j))
theorem c_rem1 {b T hc nx n0 l0 p : Nat} {W : Nat → Nat} (P : pt h b) (r : ah_r h b 4 = some T) (t : ah_x h T 0 1620) (hT : T ≠ b ∧ T ≠ b + 1 ∧ T ≠ b + 2) (tb : T < 10000000) (t2 : 216 ≤ T) (wT : W T = p) (h10 : hc ≤ 10) (hnx : nx < 10) (f5 : ah_f h b 5 = nI hc) (f6 : ah_f h b 6 = nI nx) (f2 : ah_f h b 2 = nI n0) (f3 : ah_f h b 3 = nI l0) (k : ∀ h', RM h h' W b p n0 l0 hc nx T → Q none h') : ex_G mX7_remember (d + 1) 16 [.ref b, .retAddr 0] [] h bc bs Q := by
  refine c_rem16 P r t hT tb h10 hnx f5 f6 f2 f3 (fun h' F e1 e2 => k h' ⟨Or.inl F.1.1, ⟨t2, by rw [F.1.1]; exact t.1, tb, ?_, by rw [F.1.2.2.1]; exact r, hT⟩, fun _ => wT, fun a a1 a2 => eqc_fr F (by simp only [List.mem_cons, List.not_mem_nil, or_false]; omega), ⟨by rw [F.1.2.1], e1, fun k _ => by rw [F.1.2.2.1]⟩, ⟨?_, ?_, fun e he => ?_⟩, fun _ => ⟨r, fun i hi hin j hj => ?_⟩⟩)
  · unfold ah_x at t ⊢
    rw [F.1.1, F.1.2.1]
    exact t
  · rw [e2, pk_cpy_out (by omega), u1_n _ _ (by omega), u1_s]
  · rw [e2, pk_cpy_out (by omega), u1_s]
  · rw [e2, pk_cpy_in (by omega) (by omega), show 0 + (162 * nx + 2 + e - (162 * nx + 2)) = e by omega]
  · rw [e2, pk_cpy_out (by omega), u1_n _ _ (by omega), u1_n _ _ (by omega)]
theorem c_remember {b p n0 l0 : Nat} {W : Nat → Nat} (P : pt h b) (hb : b + 3 ≤ ah_n h) (h216 : 216 ≤ ah_n h) (hmax : ah_n h < 10000000) (x : hp h W b p) (f2 : ah_f h b 2 = nI n0) (f3 : ah_f h b 3 = nI l0) (k : ∀ h' hc nx T, hc ≤ 10 → nx < 10 → ah_f h b 5 = nI hc → ah_f h b 6 = nI nx → RM h h' W b p n0 l0 hc nx T → Q none h') : ex_S yX7_remember mX7_remember (d + 1) [.ref b] h (bc + 1) (bs + 1620) Q := by
  obtain ⟨hc, nx, a1, a2, a3, a4, a5, a6⟩ := x
  refine X7_remember_e (X7_remember_0 ⟨pt_o P, fun a3 e3 => ?_, fun e3 => ⟨hmax, fun h5 e5 => ?_⟩⟩)
  · rcases a6 with a6 | ⟨T, t1, t2, t3, t4, t5, t6⟩
    · rw [a6.1] at e3; cases e3
    · have hT : T ≠ b ∧ T ≠ b + 1 ∧ T ≠ b + 2 := by
        refine ⟨fun e => ?_, fun e => ?_, fun e => ?_⟩
        · have := P.2.1.2
          rw [← e, t4.2] at this
          simp at this
        · have := P.2.2.2.2.1.2
          rw [← e, t4.2] at this
          simp at this
        · have := P.2.2.2.2.2.2
          rw [← e, t4.2] at this
          simp at this
      exact c_rem1 P t1 t4 hT (by omega) t2 t5 a1 a2 a4 a5 f2 f3 (fun h' R => k h' hc nx T a1 a2 a4 a5 R)
  · have hz : hc = 0 := by
      rcases a6 with a6 | ⟨T, t1, -⟩
      · exact a6.2
      · rw [e3] at t1; cases t1
    have ne : b ≠ ah_n h := by omega
    have q5 : ∀ a, a ≠ ah_n h → eqc h h5 a := fun a ha => by rw [e5]; exact eqc_na h _ _ ha
    have n5 : ah_n h5 = ah_n h + 1 := by rw [e5]; exact n_na _ _ _
    have k5 : ah_k h5 (ah_n h) = (0, 1620) := by rw [e5]; exact k_na_s _ _ _
    clear e5
    refine ⟨ah_o_eq (pt_o P) (q5 b ne) (by omega), fun h7 e7 => ?_⟩
    have q7 : ∀ a, a ≠ b → eqc h5 h7 a := fun a ha => by rw [e7]; exact eqc_sr _ _ _ _ ha
    have n7 : ah_n h7 = ah_n h + 1 := by rw [e7, n_sr, n5]
    have r7 : ah_r h7 b = u1 (ah_r h5 b) 4 (some (ah_n h)) := by rw [e7]; exact r_sr_s _ _ _ _
    have f7 : ah_f h7 b = ah_f h b := by rw [e7, f_sr]; exact (q5 b ne).2.1
    have k7 : ah_k h7 b = ah_k h b := by rw [e7, k_sr]; exact (q5 b ne).1
    clear e7
    have all : ∀ a, a ≠ b → a ≠ ah_n h → eqc h h7 a := fun a c1 c2 => eqc_trans (q5 a c2) (q7 a c1)
    have P7 : pt h7 b := by
      refine ⟨P.1, ⟨by omega, by rw [k7]; exact P.2.1.2⟩, ?_, ?_, ah_x_eq P.2.2.2.2.1 (all _ (by omega) (by omega)) (by omega), ah_x_eq P.2.2.2.2.2 (all _ (by omega) (by omega)) (by omega)⟩
      · rw [r7, u1_n _ _ (by decide), (q5 b ne).2.2.2.2.1]; exact P.2.2.1
      · rw [r7, u1_n _ _ (by decide), (q5 b ne).2.2.2.2.1]; exact P.2.2.2.1
    have x7 : ah_x h7 (ah_n h) 0 1620 := ⟨by omega, by rw [(q7 _ (by omega)).1]; exact k5⟩
    refine c_rem1 (W := fun _ => p) (p := p) P7 (by rw [r7, u1_s]) x7 (by omega) (by omega) h216 rfl a1 a2 (by rw [f7]; exact a4) (by rw [f7]; exact a5) (by rw [f7]; exact f2) (by rw [f7]; exact f3) (fun h' R => k h' hc nx (ah_n h) a1 a2 a4 a5 ?_)
    obtain ⟨R1, ⟨R3, R4, R5, R6, R7⟩, R8, R9, ⟨R10, R11, R12⟩, ⟨R13, R14, R15⟩, R16⟩ := R
    have nn : ah_n h' = ah_n h + 1 := by
      rcases R1 with R1 | R1
      · omega
      · omega
    refine ⟨Or.inr ⟨nn, rfl⟩, ⟨R3, R4, R5, R6, R7⟩, fun z => absurd z (Nat.lt_irrefl _), fun a c1 c2 => eqc_trans (all a c1 c2) (R9 a c1 c2), ⟨R10.trans k7, by rw [R11, f7], fun j hj => ?_⟩, ⟨R13, R14, fun e he => ?_⟩, fun z => by omega⟩
    · rw [R12 j hj, r7, u1_n _ _ hj, (q5 b ne).2.2.2.2.1]
    · rw [R15 e he, (all (b + 2) (by omega) (by omega)).2.2.1]
/-- a picture's memory, one more in it -/
theorem hp_new {h h' : AH} {W W' : Nat → Nat} {b p n l hc nx T : Nat} {A : Nat → Nat} (x : hp h W b p) (e5 : ah_f h b 5 = nI hc) (e6 : ah_f h b 6 = nI nx) (h10 : hc ≤ 10) (hnx : nx < 10) (h40 : n ≤ 40) (h9 : l ≤ 9) (hA : ∀ e, e < 4 * n → A e < 100)
    (g5 : ah_f h' b 5 = nI (min (hc + 1) 10)) (g6 : ah_f h' b 6 = nI ((nx + 1) % 10)) (g4 : ah_i h' 174 p = nI (min (hc + 1) 10)) (gr : ah_r h' b 4 = some T) (t1 : 216 ≤ T) (t2 : T < ah_n h') (t3 : ah_x h' T 0 1620) (tW : W' T = p)
    (c0 : ah_i h' T (162 * nx) = nI n) (c1 : ah_i h' T (162 * nx + 1) = nI l) (c2 : ∀ e, e < 4 * n → ah_i h' T (162 * nx + 2 + e) = nI (A e))
    (ol : 0 < hc → ah_r h b 4 = some T ∧ ∀ i, i < 10 → i ≠ nx → ∀ j, j < 162 → ah_i h' T (162 * i + j) = ah_i h T (162 * i + j))
    (D : mD h' (24 + 10 * p + min hc 9) n l A) (cs : ∀ j, j < min hc 9 → sC h (24 + 10 * p + j + (if hc = 10 then 1 else 0)) h' (24 + 10 * p + j)) : hp h' W' b p := by
  obtain ⟨hc', nx', a1, a2, a3, a4, a5, a6⟩ := x
  have eh : hc' = hc := by rw [a4, nI_eq (by omega) (by omega)] at e5; exact e5
  have en : nx' = nx := by rw [a5, nI_eq (by omega) (by omega)] at e6; exact e6
  subst eh
  subst en
  refine ⟨min (hc' + 1) 10, (nx' + 1) % 10, by omega, by omega, g4, g5, g6, Or.inr ⟨T, gr, t1, t2, t3, tW, fun k hk => ?_⟩⟩
  by_cases q : k = min hc' 9
  · have ei : ((nx' + 1) % 10 + 10 - min (hc' + 1) 10 + k) % 10 = nx' := by omega
    rw [ei]
    have es : 24 + 10 * p + k = 24 + 10 * p + min hc' 9 := by omega
    rw [es]
    exact ⟨n, l, h40, h9, c0, D.1, c1, D.2.1, D.2.2.1, fun e he => ⟨A e, hA e he, c2 e he, D.2.2.2 e he⟩⟩
  · have hc0 : 0 < hc' := by omega
    obtain ⟨o1, o2⟩ := ol hc0
    rcases a6 with a6 | ⟨T', r1, r2, r3, r4, r5, r6⟩
    · omega
    · have eT : T' = T := by rw [o1] at r1; exact (Option.some.inj r1).symm
      subst eT
      have ck := cs k (by omega)
      by_cases z : hc' = 10
      · rw [if_pos z] at ck
        have ei : ((nx' + 1) % 10 + 10 - min (hc' + 1) 10 + k) % 10 = (nx' + 10 - hc' + (k + 1)) % 10 := by omega
        rw [ei]
        exact he_sC (r6 (k + 1) (by omega)) ck (o2 _ (by omega) (by omega))
      · rw [if_neg z, Nat.add_zero] at ck
        have ei : ((nx' + 1) % 10 + 10 - min (hc' + 1) 10 + k) % 10 = (nx' + 10 - hc' + k) % 10 := by omega
        rw [ei]
        exact he_sC (r6 k (by omega)) ck (o2 _ (by omega) (by omega))
/-- pictures whose rows are all whole -/
theorem rp_of {h : AH} {b p n l : Nat} {A : Nat → Nat} (C : cD h b n l A) (M : mD h p n l A) (h40 : n ≤ 40) (h9 : l ≤ 9) (hA : ∀ e, e < 4 * n → A e < 100) : rp h b p := by
  obtain ⟨c0, c1, c2, c3⟩ := C
  obtain ⟨m0, m1_, m2, m3⟩ := M
  refine ⟨n, l, c0, m0, h9, c1, m1_, ⟨h40, fun c hc => Or.inr ⟨4, by omega, c2 c hc⟩, fun e he => Or.inr ⟨A e, hA e he, c3 e he⟩⟩, fun c hc => by rw [m2 c hc, c2 c hc], fun e he => by rw [m3 e he, c3 e he], fun c i hc hi w => ?_⟩
  have := w 4 (by omega) (c2 c hc)
  omega
theorem rp_whole {h : AH} {b p n r : Nat} {pl : Int32} (x : rp h b p) (hn : ah_f h b 2 = nI n) (h40 : n ≤ 40) (O : opn n (ah_i h (b + 1)) (ah_i h (b + 2)) r pl) (r0 : r = 0) : ∃ l, l ≤ 9 ∧ ah_f h b 3 = nI l ∧ cD h b n l (AN (ah_i h (b + 2))) ∧ mD h p n l (AN (ah_i h (b + 2))) := by
  subst r0
  obtain ⟨n', l, y1, y2, y3, y4, y5, y6, y7, y8, y9⟩ := x
  have en : n' = n := by
    have := y6.1
    rw [y1, nI_eq (by omega) (by omega)] at hn
    exact hn
  subst en
  obtain ⟨o1, o2, o3, o4⟩ := opn_0 O
  refine ⟨l, y3, y4, ⟨y1, y4, o1, fun e he => (PO_A y6 he (o2 e he)).1⟩, ⟨y2, y5, fun c hc => by rw [y7 c hc, o1 c hc], fun e he => by rw [y8 e he]; exact (PO_A y6 he (o2 e he)).1⟩⟩
end REPL
