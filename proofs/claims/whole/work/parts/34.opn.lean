/-! Why a picture is open: what openOf and survey tell. -/
def AN (A : Nat → Int32) (e : Nat) : Nat := (A e).toNatClampNeg
/-- rows and arcs as they can be -/
def PO (n : Nat) (L A : Nat → Int32) : Prop := n ≤ 40 ∧ (∀ c, c < n → L c = m1 ∨ ∃ l, l ≤ 4 ∧ L c = nI l) ∧ ∀ e, e < 4 * n → A e = m1 ∨ ∃ a, a < 100 ∧ A e = nI a
def opn (n : Nat) (L A : Nat → Int32) (r : Nat) (pl : Int32) : Prop :=
  (∃ c, c < n ∧ L c ≠ nI 4 ∧ (∀ c', c' < c → L c' = nI 4) ∧ r = 1 ∧ pl = nI c) ∨
  ((∀ c, c < n → L c = nI 4) ∧ ∃ e, e < 4 * n ∧ A e = m1 ∧ (∀ e', e' < e → A e' ≠ m1) ∧ r = 2 ∧ pl = nI (e / 4)) ∨
  ((∀ c, c < n → L c = nI 4) ∧ (∀ e, e < 4 * n → A e ≠ m1) ∧ ∃ e, e < 4 * n ∧ ct (fun x => AN A x = AN A e) (4 * n) ≠ 2 ∧ (∀ e', e' < e → ct (fun x => AN A x = AN A e') (4 * n) = 2) ∧ r = 3 ∧ pl = nI (e / 4)) ∨
  ((∀ c, c < n → L c = nI 4) ∧ (∀ e, e < 4 * n → A e ≠ m1) ∧ Pd n (AN A) ∧ pl = m1 ∧ (nR n (mt n (AN A)) = n + 2 * nP n (mt n (AN A)) ∧ r = 0 ∨ nR n (mt n (AN A)) ≠ n + 2 * nP n (mt n (AN A)) ∧ r = 4))
/-- the least of a kind -/
theorem least_u {p : Nat → Prop} {a b : Nat} (ha : p a) (hb : p b) (la : ∀ x, x < a → ¬ p x) (lb : ∀ x, x < b → ¬ p x) : a = b := by
  rcases Nat.lt_trichotomy a b with q | q | q
  · exact absurd ha (lb a q)
  · exact q
  · exact absurd hb (la b q)
theorem opn_u {n : Nat} {L A : Nat → Int32} {r r' : Nat} {pl pl' : Int32} (x : opn n L A r pl) (y : opn n L A r' pl') : r = r' ∧ pl = pl' := by
  rcases x with ⟨c, x1, x2, x3, x4, x5⟩ | ⟨x0, e, x1, x2, x3, x4, x5⟩ | ⟨x0, x0', e, x1, x2, x3, x4, x5⟩ | ⟨x0, x0', x1, x2, x3⟩
  · rcases y with ⟨c', y1, y2, y3, y4, y5⟩ | ⟨y0, e', y1, y2, y3, y4, y5⟩ | ⟨y0, y0', e', y1, y2, y3, y4, y5⟩ | ⟨y0, y0', y1, y2, y3⟩
    · have := least_u (p := fun c => L c ≠ nI 4) x2 y2 (fun z hz w => w (x3 z hz)) (fun z hz w => w (y3 z hz))
      exact ⟨by rw [x4, y4], by rw [x5, y5, this]⟩
    · exact absurd (y0 c x1) x2
    · exact absurd (y0 c x1) x2
    · exact absurd (y0 c x1) x2
  · rcases y with ⟨c', y1, y2, y3, y4, y5⟩ | ⟨y0, e', y1, y2, y3, y4, y5⟩ | ⟨y0, y0', e', y1, y2, y3, y4, y5⟩ | ⟨y0, y0', y1, y2, y3⟩
    · exact absurd (x0 c' y1) y2
    · have := least_u (p := fun c => A c = m1) x2 y2 x3 y3
      exact ⟨by rw [x4, y4], by rw [x5, y5, this]⟩
    · exact absurd x2 (y0' e x1)
    · exact absurd x2 (y0' e x1)
  · rcases y with ⟨c', y1, y2, y3, y4, y5⟩ | ⟨y0, e', y1, y2, y3, y4, y5⟩ | ⟨y0, y0', e', y1, y2, y3, y4, y5⟩ | ⟨y0, y0', y1, y2, y3⟩
    · exact absurd (x0 c' y1) y2
    · exact absurd y2 (x0' e' y1)
    · have := least_u (p := fun e => ct (fun x => AN A x = AN A e) (4 * n) ≠ 2) x2 y2 (fun z hz w => w (x3 z hz)) (fun z hz w => w (y3 z hz))
      exact ⟨by rw [x4, y4], by rw [x5, y5, this]⟩
    · exact absurd (y1 e x1).2 x2
  · rcases y with ⟨c', y1, y2, y3, y4, y5⟩ | ⟨y0, e', y1, y2, y3, y4, y5⟩ | ⟨y0, y0', e', y1, y2, y3, y4, y5⟩ | ⟨y0, y0', y1, y2, y3⟩
    · exact absurd (x0 c' y1) y2
    · exact absurd y2 (x0' e' y1)
    · exact absurd (x1 e' y1).2 y2
    · refine ⟨?_, by rw [x2, y2]⟩
      rcases x3 with ⟨a, b⟩ | ⟨a, b⟩ <;> rcases y3 with ⟨c, d⟩ | ⟨c, d⟩
      · rw [b, d]
      · exact absurd a c
      · exact absurd c a
      · rw [b, d]
/-- whole: its arcs are paired and it is flat -/
theorem opn_0 {n : Nat} {L A : Nat → Int32} {pl : Int32} (x : opn n L A 0 pl) : (∀ c, c < n → L c = nI 4) ∧ (∀ e, e < 4 * n → A e ≠ m1) ∧ Pd n (AN A) ∧ nR n (mt n (AN A)) = n + 2 * nP n (mt n (AN A)) := by
  rcases x with ⟨c, x1, x2, x3, x4, x5⟩ | ⟨x0, e, x1, x2, x3, x4, x5⟩ | ⟨x0, x0', e, x1, x2, x3, x4, x5⟩ | ⟨x0, x0', x1, x2, x3⟩
  · omega
  · omega
  · omega
  · rcases x3 with x3 | x3
    · exact ⟨x0, x0', x1, x3.1⟩
    · have := x3.2; omega
theorem opn_le {n : Nat} {L A : Nat → Int32} {r : Nat} {pl : Int32} (x : opn n L A r pl) : r ≤ 4 := by
  rcases x with ⟨c, x1, x2, x3, x4, x5⟩ | ⟨x0, e, x1, x2, x3, x4, x5⟩ | ⟨x0, x0', e, x1, x2, x3, x4, x5⟩ | ⟨x0, x0', x1, x2, x3⟩ <;> omega
theorem PO_A {n : Nat} {L A : Nat → Int32} (x : PO n L A) {e : Nat} (he : e < 4 * n) (h : A e ≠ m1) : A e = nI (AN A e) ∧ AN A e < 100 := by
  rcases x.2.2 e he with q | ⟨a, ha, q⟩
  · exact absurd q h
  · unfold AN
    rw [q, nI_clamp (by omega)]
    exact ⟨rfl, ha⟩
theorem nR_le (n : Nat) (m : Nat → Nat) : nR n m ≤ 4 * n := ct_le _ _
theorem nP_le (n : Nat) (m : Nat → Nat) : nP n m ≤ n := ct_le _ _
section OPN
variable {h : AH} {d bc bs : Nat} {Q : Option Value → AH → Prop} {s n : Nat} {L A : Nat → Int32}
theorem m_openOf (K : sp h) (hs : s < 368) (hn : ah_i h 170 s = nI n) (O : PO n L A) (hL : ∀ c, c < n → ah_i h 172 (40 * s + c) = L c) (hA : ∀ e, e < 4 * n → ah_i h 173 (160 * s + e) = A e)
    (k : ∀ h' r pl, fr [168, 176, 177, 178, 179, 180] h h' → (∀ k, k ≠ 9 → ah_f h' 168 k = ah_f h 168 k) → ah_f h' 168 9 = pl → opn n L A r pl → (r = 0 → ∀ e, e < 4 * n → ah_i h' 176 e = nI (mt n (AN A) e)) → Q (some (.int (nI r))) h') : ex_S yX12_openOf mX12_openOf (d + 3) [.ref 168, .int (nI s)] h bc bs Q := by
  have h40 := O.1
  refine X12_openOf_e (X12_openOf_0 ?_)
  simp (disch := omega) only [forall_eq, Option.some.injEq, exists_eq_left', Option.getD_some, n_sf, k_sf, f_sf_s, f_sf_n, r_sf, i_sf, l_sf, q_sf, ld0_sf, st0_sf, ld1_sf, ld2_sf, ld3_sf, ah_o_sf, in__sf, cp__sf, ah_x_sf, ah_ra_sf, n_si, k_si, f_si, r_si, i_si_s, i_si_n, l_si, q_si, ld0_si, st0_si, ld1_si, ld2_si, ld3_si, ah_o_si, in__si, cp__si, ah_x_si, ah_ra_si, n_sl, k_sl, f_sl, r_sl, i_sl, l_sl_s, l_sl_n, q_sl, ld0_sl, st0_sl, ld1_sl, ld2_sl, ld3_sl, ah_o_sl, in__sl, cp__sl, ah_x_sl, ah_ra_sl, n_wi, k_wi, f_wi, r_wi, i_wi_s, i_wi_n, l_wi, q_wi, ld0_wi, st0_wi, ld1_wi, ld2_wi, ld3_wi, ah_o_wi, in__wi, cp__wi, ah_x_wi, ah_ra_wi, n_wl, k_wl, f_wl, r_wl, i_wl, l_wl_s, l_wl_n, q_wl, ld0_wl, st0_wl, ld1_wl, ld2_wl, ld3_wl, ah_o_wl, in__wl, cp__wl, ah_x_wl, ah_ra_wl, n_sr, k_sr, f_sr, r_sr_s, r_sr_n, i_sr, l_sr, q_sr, n_sq, k_sq, f_sq, r_sq, i_sq, l_sq, q_sq_s, q_sq_n, o168 K, r168_2 K, s170 K, t170 K, il_0, il_1, il_2, il_3, il_4, il_5, il_6, il_7, il_8, il_9, il_10, il_11, il_12, il_13, il_14, il_15, il_16, il_17, il_18, il_19, il_20, il_24, il_30, il_31, il_38, il_39, il_40, il_41, il_48, il_50, il_59, il_60, il_63, il_64, il_70, il_80, il_99, il_100, il_120, il_130, il_140, il_144, il_159, il_160, il_162, il_200, il_210, il_240, il_264, il_280, il_281, il_300, il_364, il_368, il_599, il_600, il_601, il_999, il_1610, il_1620, il_1800, il_4000, il_5000, il_7000, il_14500, il_58240, il_1000000, m1_e, nI_1, nI_add, pk_mul, pk_div, pk_sub, nI_clamp, nI_leI, nI_ltI, nI_eq, m1_lt, m1_le, m1_gt, m1_ge, m1_ne, m1_en, ix_nI, im_nI, and1, and3, sh2_, shr2, corner_nI, turned_nI]
  refine ⟨trivial, ?_⟩
  refine lp n (fun j h' => fr [168, 176, 177, 178, 179, 180] h h' ∧ ((∀ k, k ≠ 9 → ah_f h' 168 k = ah_f h 168 k) ∧ ah_f h' 168 9 = m1) ∧ ∀ c, c < j → L c = nI 4) (fun j h' => ex_G mX12_openOf (d + 3) 7 [.ref 168, .int (nI s), .int (nI j), .retAddr 0] [] h' bc bs Q) ⟨fr_sf (fr_refl _ h) (by decide), ⟨fun k hk => ?_, ?_⟩, fun c hc => absurd hc (Nat.not_lt_zero c)⟩ ?_ ?_
  · simp (disch := omega) only [n_sf, k_sf, f_sf_s, f_sf_n, r_sf, i_sf, l_sf, q_sf, ld0_sf, st0_sf, ld1_sf, ld2_sf, ld3_sf, ah_o_sf, in__sf, cp__sf, ah_x_sf, ah_ra_sf, n_si, k_si, f_si, r_si, i_si_s, i_si_n, l_si, q_si, ld0_si, st0_si, ld1_si, ld2_si, ld3_si, ah_o_si, in__si, cp__si, ah_x_si, ah_ra_si, n_sl, k_sl, f_sl, r_sl, i_sl, l_sl_s, l_sl_n, q_sl, ld0_sl, st0_sl, ld1_sl, ld2_sl, ld3_sl, ah_o_sl, in__sl, cp__sl, ah_x_sl, ah_ra_sl, n_wi, k_wi, f_wi, r_wi, i_wi_s, i_wi_n, l_wi, q_wi, ld0_wi, st0_wi, ld1_wi, ld2_wi, ld3_wi, ah_o_wi, in__wi, cp__wi, ah_x_wi, ah_ra_wi, n_wl, k_wl, f_wl, r_wl, i_wl, l_wl_s, l_wl_n, q_wl, ld0_wl, st0_wl, ld1_wl, ld2_wl, ld3_wl, ah_o_wl, in__wl, cp__wl, ah_x_wl, ah_ra_wl, n_sr, k_sr, f_sr, r_sr_s, r_sr_n, i_sr, l_sr, q_sr, n_sq, k_sq, f_sq, r_sq, i_sq, l_sq, q_sq_s, q_sq_n, u1_n]
  · simp (disch := omega) only [n_sf, k_sf, f_sf_s, f_sf_n, r_sf, i_sf, l_sf, q_sf, ld0_sf, st0_sf, ld1_sf, ld2_sf, ld3_sf, ah_o_sf, in__sf, cp__sf, ah_x_sf, ah_ra_sf, n_si, k_si, f_si, r_si, i_si_s, i_si_n, l_si, q_si, ld0_si, st0_si, ld1_si, ld2_si, ld3_si, ah_o_si, in__si, cp__si, ah_x_si, ah_ra_si, n_sl, k_sl, f_sl, r_sl, i_sl, l_sl_s, l_sl_n, q_sl, ld0_sl, st0_sl, ld1_sl, ld2_sl, ld3_sl, ah_o_sl, in__sl, cp__sl, ah_x_sl, ah_ra_sl, n_wi, k_wi, f_wi, r_wi, i_wi_s, i_wi_n, l_wi, q_wi, ld0_wi, st0_wi, ld1_wi, ld2_wi, ld3_wi, ah_o_wi, in__wi, cp__wi, ah_x_wi, ah_ra_wi, n_wl, k_wl, f_wl, r_wl, i_wl, l_wl_s, l_wl_n, q_wl, ld0_wl, st0_wl, ld1_wl, ld2_wl, ld3_wl, ah_o_wl, in__wl, cp__wl, ah_x_wl, ah_ra_wl, n_sr, k_sr, f_sr, r_sr_s, r_sr_n, i_sr, l_sr, q_sr, n_sq, k_sq, f_sq, r_sq, i_sq, l_sq, q_sq_s, q_sq_n, u1_s]
  · rintro j h1 hj ⟨F, ⟨f1, f2⟩, e0⟩ nx
    refine X12_openOf_7 ?_
    have K1 := sp_fr K F
    have hn1 : ah_i h1 170 s = nI n := by rw [fr_i F 170 (by decide)]; exact hn
    have hL1 : ah_i h1 172 (40 * s + j) = L j := by rw [fr_i F 172 (by decide)]; exact hL j hj
    by_cases q : L j = nI 4
    · rw [q] at hL1
      simp (disch := omega) only [forall_eq, Option.some.injEq, exists_eq_left', Option.getD_some, n_sf, k_sf, f_sf_s, f_sf_n, r_sf, i_sf, l_sf, q_sf, ld0_sf, st0_sf, ld1_sf, ld2_sf, ld3_sf, ah_o_sf, in__sf, cp__sf, ah_x_sf, ah_ra_sf, n_si, k_si, f_si, r_si, i_si_s, i_si_n, l_si, q_si, ld0_si, st0_si, ld1_si, ld2_si, ld3_si, ah_o_si, in__si, cp__si, ah_x_si, ah_ra_si, n_sl, k_sl, f_sl, r_sl, i_sl, l_sl_s, l_sl_n, q_sl, ld0_sl, st0_sl, ld1_sl, ld2_sl, ld3_sl, ah_o_sl, in__sl, cp__sl, ah_x_sl, ah_ra_sl, n_wi, k_wi, f_wi, r_wi, i_wi_s, i_wi_n, l_wi, q_wi, ld0_wi, st0_wi, ld1_wi, ld2_wi, ld3_wi, ah_o_wi, in__wi, cp__wi, ah_x_wi, ah_ra_wi, n_wl, k_wl, f_wl, r_wl, i_wl, l_wl_s, l_wl_n, q_wl, ld0_wl, st0_wl, ld1_wl, ld2_wl, ld3_wl, ah_o_wl, in__wl, cp__wl, ah_x_wl, ah_ra_wl, n_sr, k_sr, f_sr, r_sr_s, r_sr_n, i_sr, l_sr, q_sr, n_sq, k_sq, f_sq, r_sq, i_sq, l_sq, q_sq_s, q_sq_n, o168 K1, r168_2 K1, s170 K1, t170 K1, r168_4 K1, s172 K1, t172 K1, il_0, il_1, il_2, il_3, il_4, il_5, il_6, il_7, il_8, il_9, il_10, il_11, il_12, il_13, il_14, il_15, il_16, il_17, il_18, il_19, il_20, il_24, il_30, il_31, il_38, il_39, il_40, il_41, il_48, il_50, il_59, il_60, il_63, il_64, il_70, il_80, il_99, il_100, il_120, il_130, il_140, il_144, il_159, il_160, il_162, il_200, il_210, il_240, il_264, il_280, il_281, il_300, il_364, il_368, il_599, il_600, il_601, il_999, il_1610, il_1620, il_1800, il_4000, il_5000, il_7000, il_14500, il_58240, il_1000000, m1_e, nI_1, nI_add, pk_mul, pk_div, pk_sub, nI_clamp, nI_leI, nI_ltI, nI_eq, m1_lt, m1_le, m1_gt, m1_ge, m1_ne, m1_en, ix_nI, im_nI, and1, and3, sh2_, shr2, corner_nI, turned_nI, hn1, hL1]
      refine ⟨trivial, by omega, fun z => by omega, fun _ => ⟨by omega, fun _ => nx _ ⟨F, ⟨f1, f2⟩, fun c hc => ?_⟩, fun z => (by first | omega | exact absurd trivial z | exact z.elim | exact absurd rfl z)⟩⟩
      by_cases e : c = j
      · rw [e]; exact q
      · exact e0 c (by omega)
    · have hlt : ¬ nI 4 ≤ L j := by
        rcases O.2.1 j hj with w | ⟨l, hl, w⟩
        · rw [w]; exact m1_ge (by omega)
        · rw [w, nI_leI (by omega) (by omega)]
          intro z
          exact q (by rw [w, show l = 4 by omega])
      simp (disch := omega) only [forall_eq, Option.some.injEq, exists_eq_left', Option.getD_some, n_sf, k_sf, f_sf_s, f_sf_n, r_sf, i_sf, l_sf, q_sf, ld0_sf, st0_sf, ld1_sf, ld2_sf, ld3_sf, ah_o_sf, in__sf, cp__sf, ah_x_sf, ah_ra_sf, n_si, k_si, f_si, r_si, i_si_s, i_si_n, l_si, q_si, ld0_si, st0_si, ld1_si, ld2_si, ld3_si, ah_o_si, in__si, cp__si, ah_x_si, ah_ra_si, n_sl, k_sl, f_sl, r_sl, i_sl, l_sl_s, l_sl_n, q_sl, ld0_sl, st0_sl, ld1_sl, ld2_sl, ld3_sl, ah_o_sl, in__sl, cp__sl, ah_x_sl, ah_ra_sl, n_wi, k_wi, f_wi, r_wi, i_wi_s, i_wi_n, l_wi, q_wi, ld0_wi, st0_wi, ld1_wi, ld2_wi, ld3_wi, ah_o_wi, in__wi, cp__wi, ah_x_wi, ah_ra_wi, n_wl, k_wl, f_wl, r_wl, i_wl, l_wl_s, l_wl_n, q_wl, ld0_wl, st0_wl, ld1_wl, ld2_wl, ld3_wl, ah_o_wl, in__wl, cp__wl, ah_x_wl, ah_ra_wl, n_sr, k_sr, f_sr, r_sr_s, r_sr_n, i_sr, l_sr, q_sr, n_sq, k_sq, f_sq, r_sq, i_sq, l_sq, q_sq_s, q_sq_n, o168 K1, r168_2 K1, s170 K1, t170 K1, r168_4 K1, s172 K1, t172 K1, il_0, il_1, il_2, il_3, il_4, il_5, il_6, il_7, il_8, il_9, il_10, il_11, il_12, il_13, il_14, il_15, il_16, il_17, il_18, il_19, il_20, il_24, il_30, il_31, il_38, il_39, il_40, il_41, il_48, il_50, il_59, il_60, il_63, il_64, il_70, il_80, il_99, il_100, il_120, il_130, il_140, il_144, il_159, il_160, il_162, il_200, il_210, il_240, il_264, il_280, il_281, il_300, il_364, il_368, il_599, il_600, il_601, il_999, il_1610, il_1620, il_1800, il_4000, il_5000, il_7000, il_14500, il_58240, il_1000000, m1_e, nI_1, nI_add, pk_mul, pk_div, pk_sub, nI_clamp, nI_leI, nI_ltI, nI_eq, m1_lt, m1_le, m1_gt, m1_ge, m1_ne, m1_en, ix_nI, im_nI, and1, and3, sh2_, shr2, corner_nI, turned_nI, hn1, hL1]
      refine ⟨trivial, by omega, fun z => by omega, fun _ => ⟨by omega, fun z => absurd z hlt, fun _ => k _ 1 (nI j) (fr_sf F (by decide)) ?_ ?_ ?_ (fun w => absurd w Nat.one_ne_zero)⟩⟩
      · intro k hk
        simp (disch := omega) only [n_sf, k_sf, f_sf_s, f_sf_n, r_sf, i_sf, l_sf, q_sf, ld0_sf, st0_sf, ld1_sf, ld2_sf, ld3_sf, ah_o_sf, in__sf, cp__sf, ah_x_sf, ah_ra_sf, n_si, k_si, f_si, r_si, i_si_s, i_si_n, l_si, q_si, ld0_si, st0_si, ld1_si, ld2_si, ld3_si, ah_o_si, in__si, cp__si, ah_x_si, ah_ra_si, n_sl, k_sl, f_sl, r_sl, i_sl, l_sl_s, l_sl_n, q_sl, ld0_sl, st0_sl, ld1_sl, ld2_sl, ld3_sl, ah_o_sl, in__sl, cp__sl, ah_x_sl, ah_ra_sl, n_wi, k_wi, f_wi, r_wi, i_wi_s, i_wi_n, l_wi, q_wi, ld0_wi, st0_wi, ld1_wi, ld2_wi, ld3_wi, ah_o_wi, in__wi, cp__wi, ah_x_wi, ah_ra_wi, n_wl, k_wl, f_wl, r_wl, i_wl, l_wl_s, l_wl_n, q_wl, ld0_wl, st0_wl, ld1_wl, ld2_wl, ld3_wl, ah_o_wl, in__wl, cp__wl, ah_x_wl, ah_ra_wl, n_sr, k_sr, f_sr, r_sr_s, r_sr_n, i_sr, l_sr, q_sr, n_sq, k_sq, f_sq, r_sq, i_sq, l_sq, q_sq_s, q_sq_n, u1_n]
        exact f1 k hk
      · simp (disch := omega) only [n_sf, k_sf, f_sf_s, f_sf_n, r_sf, i_sf, l_sf, q_sf, ld0_sf, st0_sf, ld1_sf, ld2_sf, ld3_sf, ah_o_sf, in__sf, cp__sf, ah_x_sf, ah_ra_sf, n_si, k_si, f_si, r_si, i_si_s, i_si_n, l_si, q_si, ld0_si, st0_si, ld1_si, ld2_si, ld3_si, ah_o_si, in__si, cp__si, ah_x_si, ah_ra_si, n_sl, k_sl, f_sl, r_sl, i_sl, l_sl_s, l_sl_n, q_sl, ld0_sl, st0_sl, ld1_sl, ld2_sl, ld3_sl, ah_o_sl, in__sl, cp__sl, ah_x_sl, ah_ra_sl, n_wi, k_wi, f_wi, r_wi, i_wi_s, i_wi_n, l_wi, q_wi, ld0_wi, st0_wi, ld1_wi, ld2_wi, ld3_wi, ah_o_wi, in__wi, cp__wi, ah_x_wi, ah_ra_wi, n_wl, k_wl, f_wl, r_wl, i_wl, l_wl_s, l_wl_n, q_wl, ld0_wl, st0_wl, ld1_wl, ld2_wl, ld3_wl, ah_o_wl, in__wl, cp__wl, ah_x_wl, ah_ra_wl, n_sr, k_sr, f_sr, r_sr_s, r_sr_n, i_sr, l_sr, q_sr, n_sq, k_sq, f_sq, r_sq, i_sq, l_sq, q_sq_s, q_sq_n, u1_s]
      · exact Or.inl ⟨j, hj, q, e0, rfl, rfl⟩
  · rintro h1 ⟨F, ⟨f1, f2⟩, eL⟩
    refine X12_openOf_7 ?_
    have K1 := sp_fr K F
    have hn1 : ah_i h1 170 s = nI n := by rw [fr_i F 170 (by decide)]; exact hn
    simp (disch := omega) only [forall_eq, Option.some.injEq, exists_eq_left', Option.getD_some, n_sf, k_sf, f_sf_s, f_sf_n, r_sf, i_sf, l_sf, q_sf, ld0_sf, st0_sf, ld1_sf, ld2_sf, ld3_sf, ah_o_sf, in__sf, cp__sf, ah_x_sf, ah_ra_sf, n_si, k_si, f_si, r_si, i_si_s, i_si_n, l_si, q_si, ld0_si, st0_si, ld1_si, ld2_si, ld3_si, ah_o_si, in__si, cp__si, ah_x_si, ah_ra_si, n_sl, k_sl, f_sl, r_sl, i_sl, l_sl_s, l_sl_n, q_sl, ld0_sl, st0_sl, ld1_sl, ld2_sl, ld3_sl, ah_o_sl, in__sl, cp__sl, ah_x_sl, ah_ra_sl, n_wi, k_wi, f_wi, r_wi, i_wi_s, i_wi_n, l_wi, q_wi, ld0_wi, st0_wi, ld1_wi, ld2_wi, ld3_wi, ah_o_wi, in__wi, cp__wi, ah_x_wi, ah_ra_wi, n_wl, k_wl, f_wl, r_wl, i_wl, l_wl_s, l_wl_n, q_wl, ld0_wl, st0_wl, ld1_wl, ld2_wl, ld3_wl, ah_o_wl, in__wl, cp__wl, ah_x_wl, ah_ra_wl, n_sr, k_sr, f_sr, r_sr_s, r_sr_n, i_sr, l_sr, q_sr, n_sq, k_sq, f_sq, r_sq, i_sq, l_sq, q_sq_s, q_sq_n, o168 K1, r168_2 K1, s170 K1, t170 K1, r168_4 K1, s172 K1, t172 K1, il_0, il_1, il_2, il_3, il_4, il_5, il_6, il_7, il_8, il_9, il_10, il_11, il_12, il_13, il_14, il_15, il_16, il_17, il_18, il_19, il_20, il_24, il_30, il_31, il_38, il_39, il_40, il_41, il_48, il_50, il_59, il_60, il_63, il_64, il_70, il_80, il_99, il_100, il_120, il_130, il_140, il_144, il_159, il_160, il_162, il_200, il_210, il_240, il_264, il_280, il_281, il_300, il_364, il_368, il_599, il_600, il_601, il_999, il_1610, il_1620, il_1800, il_4000, il_5000, il_7000, il_14500, il_58240, il_1000000, m1_e, nI_1, nI_add, pk_mul, pk_div, pk_sub, nI_clamp, nI_leI, nI_ltI, nI_eq, m1_lt, m1_le, m1_gt, m1_ge, m1_ne, m1_en, ix_nI, im_nI, and1, and3, sh2_, shr2, corner_nI, turned_nI, hn1]
    refine ⟨trivial, by omega, fun _ => ?_, fun z => (by first | omega | exact absurd trivial z | exact z.elim | exact absurd rfl z)⟩
    refine lp 100 (fun j h' => fr [168, 176, 177, 178, 179, 180] h h' ∧ ((∀ k, k ≠ 9 → ah_f h' 168 k = ah_f h 168 k) ∧ ah_f h' 168 9 = m1) ∧ ∀ a, a < j → ah_i h' 180 a = nI 0) (fun j h' => ex_G mX12_openOf (d + 3) 47 [.ref 168, .int (nI s), .int (nI j), .retAddr 0] [] h' bc bs Q) ⟨F, ⟨f1, f2⟩, fun c hc => absurd hc (Nat.not_lt_zero c)⟩ ?_ ?_
    · clear F f1 f2 K1 hn1 h1
      rintro j h1 hj ⟨F, ⟨f1, f2⟩, e0⟩ nx
      refine X12_openOf_47 ?_
      have K1 := sp_fr K F
      simp (disch := omega) only [forall_eq, Option.some.injEq, exists_eq_left', Option.getD_some, n_sf, k_sf, f_sf_s, f_sf_n, r_sf, i_sf, l_sf, q_sf, ld0_sf, st0_sf, ld1_sf, ld2_sf, ld3_sf, ah_o_sf, in__sf, cp__sf, ah_x_sf, ah_ra_sf, n_si, k_si, f_si, r_si, i_si_s, i_si_n, l_si, q_si, ld0_si, st0_si, ld1_si, ld2_si, ld3_si, ah_o_si, in__si, cp__si, ah_x_si, ah_ra_si, n_sl, k_sl, f_sl, r_sl, i_sl, l_sl_s, l_sl_n, q_sl, ld0_sl, st0_sl, ld1_sl, ld2_sl, ld3_sl, ah_o_sl, in__sl, cp__sl, ah_x_sl, ah_ra_sl, n_wi, k_wi, f_wi, r_wi, i_wi_s, i_wi_n, l_wi, q_wi, ld0_wi, st0_wi, ld1_wi, ld2_wi, ld3_wi, ah_o_wi, in__wi, cp__wi, ah_x_wi, ah_ra_wi, n_wl, k_wl, f_wl, r_wl, i_wl, l_wl_s, l_wl_n, q_wl, ld0_wl, st0_wl, ld1_wl, ld2_wl, ld3_wl, ah_o_wl, in__wl, cp__wl, ah_x_wl, ah_ra_wl, n_sr, k_sr, f_sr, r_sr_s, r_sr_n, i_sr, l_sr, q_sr, n_sq, k_sq, f_sq, r_sq, i_sq, l_sq, q_sq_s, q_sq_n, o168 K1, r168_14 K1, s180 K1, t180 K1, il_0, il_1, il_2, il_3, il_4, il_5, il_6, il_7, il_8, il_9, il_10, il_11, il_12, il_13, il_14, il_15, il_16, il_17, il_18, il_19, il_20, il_24, il_30, il_31, il_38, il_39, il_40, il_41, il_48, il_50, il_59, il_60, il_63, il_64, il_70, il_80, il_99, il_100, il_120, il_130, il_140, il_144, il_159, il_160, il_162, il_200, il_210, il_240, il_264, il_280, il_281, il_300, il_364, il_368, il_599, il_600, il_601, il_999, il_1610, il_1620, il_1800, il_4000, il_5000, il_7000, il_14500, il_58240, il_1000000, m1_e, nI_1, nI_add, pk_mul, pk_div, pk_sub, nI_clamp, nI_leI, nI_ltI, nI_eq, m1_lt, m1_le, m1_gt, m1_ge, m1_ne, m1_en, ix_nI, im_nI, and1, and3, sh2_, shr2, corner_nI, turned_nI]
      refine ⟨fun z => by omega, fun _ => ⟨trivial, by omega, nx _ ⟨fr_si F (by decide), ⟨f1, f2⟩, fun a ha => ?_⟩⟩⟩
      rw [i_si_s]
      unfold u1
      split
      · rfl
      · exact e0 a (by omega)
    · clear F f1 f2 K1 hn1 h1
      rintro h1 ⟨F, ⟨f1, f2⟩, e0⟩
      refine X12_openOf_47 ?_
      have K1 := sp_fr K F
      simp (disch := omega) only [forall_eq, Option.some.injEq, exists_eq_left', Option.getD_some, n_sf, k_sf, f_sf_s, f_sf_n, r_sf, i_sf, l_sf, q_sf, ld0_sf, st0_sf, ld1_sf, ld2_sf, ld3_sf, ah_o_sf, in__sf, cp__sf, ah_x_sf, ah_ra_sf, n_si, k_si, f_si, r_si, i_si_s, i_si_n, l_si, q_si, ld0_si, st0_si, ld1_si, ld2_si, ld3_si, ah_o_si, in__si, cp__si, ah_x_si, ah_ra_si, n_sl, k_sl, f_sl, r_sl, i_sl, l_sl_s, l_sl_n, q_sl, ld0_sl, st0_sl, ld1_sl, ld2_sl, ld3_sl, ah_o_sl, in__sl, cp__sl, ah_x_sl, ah_ra_sl, n_wi, k_wi, f_wi, r_wi, i_wi_s, i_wi_n, l_wi, q_wi, ld0_wi, st0_wi, ld1_wi, ld2_wi, ld3_wi, ah_o_wi, in__wi, cp__wi, ah_x_wi, ah_ra_wi, n_wl, k_wl, f_wl, r_wl, i_wl, l_wl_s, l_wl_n, q_wl, ld0_wl, st0_wl, ld1_wl, ld2_wl, ld3_wl, ah_o_wl, in__wl, cp__wl, ah_x_wl, ah_ra_wl, n_sr, k_sr, f_sr, r_sr_s, r_sr_n, i_sr, l_sr, q_sr, n_sq, k_sq, f_sq, r_sq, i_sq, l_sq, q_sq_s, q_sq_n, o168 K1, r168_14 K1, s180 K1, t180 K1, il_0, il_1, il_2, il_3, il_4, il_5, il_6, il_7, il_8, il_9, il_10, il_11, il_12, il_13, il_14, il_15, il_16, il_17, il_18, il_19, il_20, il_24, il_30, il_31, il_38, il_39, il_40, il_41, il_48, il_50, il_59, il_60, il_63, il_64, il_70, il_80, il_99, il_100, il_120, il_130, il_140, il_144, il_159, il_160, il_162, il_200, il_210, il_240, il_264, il_280, il_281, il_300, il_364, il_368, il_599, il_600, il_601, il_999, il_1610, il_1620, il_1800, il_4000, il_5000, il_7000, il_14500, il_58240, il_1000000, m1_e, nI_1, nI_add, pk_mul, pk_div, pk_sub, nI_clamp, nI_leI, nI_ltI, nI_eq, m1_lt, m1_le, m1_gt, m1_ge, m1_ne, m1_en, ix_nI, im_nI, and1, and3, sh2_, shr2, corner_nI, turned_nI]
      refine ⟨fun _ => ?_, fun z => (by first | omega | exact absurd trivial z | exact z.elim | exact absurd rfl z)⟩
      refine lp (4 * n) (fun j h' => fr [168, 176, 177, 178, 179, 180] h h' ∧ ((∀ k, k ≠ 9 → ah_f h' 168 k = ah_f h 168 k) ∧ ah_f h' 168 9 = m1) ∧ (∀ a, a < 100 → ah_i h' 180 a = nI (ct (fun x => AN A x = a) j)) ∧ ∀ e, e < j → A e ≠ m1) (fun j h' => ex_G mX12_openOf (d + 3) 68 [.ref 168, .int (nI s), .int (nI j), .retAddr 0] [] h' bc bs Q) ⟨F, ⟨f1, f2⟩, e0, fun c hc => absurd hc (Nat.not_lt_zero c)⟩ ?_ ?_
      · clear F f1 f2 K1 e0 h1
        rintro j h1 hj ⟨F, ⟨f1, f2⟩, e0, e1⟩ nx
        refine X12_openOf_68 ?_
        have K1 := sp_fr K F
        have hn1 : ah_i h1 170 s = nI n := by rw [fr_i F 170 (by decide)]; exact hn
        have hA1 : ah_i h1 173 (160 * s + j) = A j := by rw [fr_i F 173 (by decide)]; exact hA j hj
        by_cases q : A j = m1
        · rw [q] at hA1
          simp (disch := omega) only [forall_eq, Option.some.injEq, exists_eq_left', Option.getD_some, n_sf, k_sf, f_sf_s, f_sf_n, r_sf, i_sf, l_sf, q_sf, ld0_sf, st0_sf, ld1_sf, ld2_sf, ld3_sf, ah_o_sf, in__sf, cp__sf, ah_x_sf, ah_ra_sf, n_si, k_si, f_si, r_si, i_si_s, i_si_n, l_si, q_si, ld0_si, st0_si, ld1_si, ld2_si, ld3_si, ah_o_si, in__si, cp__si, ah_x_si, ah_ra_si, n_sl, k_sl, f_sl, r_sl, i_sl, l_sl_s, l_sl_n, q_sl, ld0_sl, st0_sl, ld1_sl, ld2_sl, ld3_sl, ah_o_sl, in__sl, cp__sl, ah_x_sl, ah_ra_sl, n_wi, k_wi, f_wi, r_wi, i_wi_s, i_wi_n, l_wi, q_wi, ld0_wi, st0_wi, ld1_wi, ld2_wi, ld3_wi, ah_o_wi, in__wi, cp__wi, ah_x_wi, ah_ra_wi, n_wl, k_wl, f_wl, r_wl, i_wl, l_wl_s, l_wl_n, q_wl, ld0_wl, st0_wl, ld1_wl, ld2_wl, ld3_wl, ah_o_wl, in__wl, cp__wl, ah_x_wl, ah_ra_wl, n_sr, k_sr, f_sr, r_sr_s, r_sr_n, i_sr, l_sr, q_sr, n_sq, k_sq, f_sq, r_sq, i_sq, l_sq, q_sq_s, q_sq_n, o168 K1, r168_2 K1, s170 K1, t170 K1, r168_5 K1, s173 K1, t173 K1, r168_14 K1, s180 K1, t180 K1, il_0, il_1, il_2, il_3, il_4, il_5, il_6, il_7, il_8, il_9, il_10, il_11, il_12, il_13, il_14, il_15, il_16, il_17, il_18, il_19, il_20, il_24, il_30, il_31, il_38, il_39, il_40, il_41, il_48, il_50, il_59, il_60, il_63, il_64, il_70, il_80, il_99, il_100, il_120, il_130, il_140, il_144, il_159, il_160, il_162, il_200, il_210, il_240, il_264, il_280, il_281, il_300, il_364, il_368, il_599, il_600, il_601, il_999, il_1610, il_1620, il_1800, il_4000, il_5000, il_7000, il_14500, il_58240, il_1000000, m1_e, nI_1, nI_add, pk_mul, pk_div, pk_sub, nI_clamp, nI_leI, nI_ltI, nI_eq, m1_lt, m1_le, m1_gt, m1_ge, m1_ne, m1_en, ix_nI, im_nI, and1, and3, sh2_, shr2, corner_nI, turned_nI, hn1, hA1]
          refine ⟨trivial, by omega, fun z => by omega, fun _ => ⟨by omega, fun z => (by first | omega | exact absurd trivial z | exact z.elim | exact absurd rfl z), fun _ => k _ 2 (nI (j / 4)) (fr_sf F (by decide)) ?_ ?_ ?_ (fun w => absurd w (by decide))⟩⟩
          · intro k hk
            simp (disch := omega) only [n_sf, k_sf, f_sf_s, f_sf_n, r_sf, i_sf, l_sf, q_sf, ld0_sf, st0_sf, ld1_sf, ld2_sf, ld3_sf, ah_o_sf, in__sf, cp__sf, ah_x_sf, ah_ra_sf, n_si, k_si, f_si, r_si, i_si_s, i_si_n, l_si, q_si, ld0_si, st0_si, ld1_si, ld2_si, ld3_si, ah_o_si, in__si, cp__si, ah_x_si, ah_ra_si, n_sl, k_sl, f_sl, r_sl, i_sl, l_sl_s, l_sl_n, q_sl, ld0_sl, st0_sl, ld1_sl, ld2_sl, ld3_sl, ah_o_sl, in__sl, cp__sl, ah_x_sl, ah_ra_sl, n_wi, k_wi, f_wi, r_wi, i_wi_s, i_wi_n, l_wi, q_wi, ld0_wi, st0_wi, ld1_wi, ld2_wi, ld3_wi, ah_o_wi, in__wi, cp__wi, ah_x_wi, ah_ra_wi, n_wl, k_wl, f_wl, r_wl, i_wl, l_wl_s, l_wl_n, q_wl, ld0_wl, st0_wl, ld1_wl, ld2_wl, ld3_wl, ah_o_wl, in__wl, cp__wl, ah_x_wl, ah_ra_wl, n_sr, k_sr, f_sr, r_sr_s, r_sr_n, i_sr, l_sr, q_sr, n_sq, k_sq, f_sq, r_sq, i_sq, l_sq, q_sq_s, q_sq_n, u1_n]
            exact f1 k hk
          · simp (disch := omega) only [n_sf, k_sf, f_sf_s, f_sf_n, r_sf, i_sf, l_sf, q_sf, ld0_sf, st0_sf, ld1_sf, ld2_sf, ld3_sf, ah_o_sf, in__sf, cp__sf, ah_x_sf, ah_ra_sf, n_si, k_si, f_si, r_si, i_si_s, i_si_n, l_si, q_si, ld0_si, st0_si, ld1_si, ld2_si, ld3_si, ah_o_si, in__si, cp__si, ah_x_si, ah_ra_si, n_sl, k_sl, f_sl, r_sl, i_sl, l_sl_s, l_sl_n, q_sl, ld0_sl, st0_sl, ld1_sl, ld2_sl, ld3_sl, ah_o_sl, in__sl, cp__sl, ah_x_sl, ah_ra_sl, n_wi, k_wi, f_wi, r_wi, i_wi_s, i_wi_n, l_wi, q_wi, ld0_wi, st0_wi, ld1_wi, ld2_wi, ld3_wi, ah_o_wi, in__wi, cp__wi, ah_x_wi, ah_ra_wi, n_wl, k_wl, f_wl, r_wl, i_wl, l_wl_s, l_wl_n, q_wl, ld0_wl, st0_wl, ld1_wl, ld2_wl, ld3_wl, ah_o_wl, in__wl, cp__wl, ah_x_wl, ah_ra_wl, n_sr, k_sr, f_sr, r_sr_s, r_sr_n, i_sr, l_sr, q_sr, n_sq, k_sq, f_sq, r_sq, i_sq, l_sq, q_sq_s, q_sq_n, u1_s]
          · exact Or.inr (Or.inl ⟨eL, j, hj, q, e1, rfl, rfl⟩)
        · obtain ⟨w1, w2⟩ := PO_A O hj q
          rw [w1] at hA1
          have ht := e0 (AN A j) w2
          have hcl := ct_le (fun x => AN A x = AN A j) j
          simp (disch := omega) only [forall_eq, Option.some.injEq, exists_eq_left', Option.getD_some, n_sf, k_sf, f_sf_s, f_sf_n, r_sf, i_sf, l_sf, q_sf, ld0_sf, st0_sf, ld1_sf, ld2_sf, ld3_sf, ah_o_sf, in__sf, cp__sf, ah_x_sf, ah_ra_sf, n_si, k_si, f_si, r_si, i_si_s, i_si_n, l_si, q_si, ld0_si, st0_si, ld1_si, ld2_si, ld3_si, ah_o_si, in__si, cp__si, ah_x_si, ah_ra_si, n_sl, k_sl, f_sl, r_sl, i_sl, l_sl_s, l_sl_n, q_sl, ld0_sl, st0_sl, ld1_sl, ld2_sl, ld3_sl, ah_o_sl, in__sl, cp__sl, ah_x_sl, ah_ra_sl, n_wi, k_wi, f_wi, r_wi, i_wi_s, i_wi_n, l_wi, q_wi, ld0_wi, st0_wi, ld1_wi, ld2_wi, ld3_wi, ah_o_wi, in__wi, cp__wi, ah_x_wi, ah_ra_wi, n_wl, k_wl, f_wl, r_wl, i_wl, l_wl_s, l_wl_n, q_wl, ld0_wl, st0_wl, ld1_wl, ld2_wl, ld3_wl, ah_o_wl, in__wl, cp__wl, ah_x_wl, ah_ra_wl, n_sr, k_sr, f_sr, r_sr_s, r_sr_n, i_sr, l_sr, q_sr, n_sq, k_sq, f_sq, r_sq, i_sq, l_sq, q_sq_s, q_sq_n, o168 K1, r168_2 K1, s170 K1, t170 K1, r168_5 K1, s173 K1, t173 K1, r168_14 K1, s180 K1, t180 K1, il_0, il_1, il_2, il_3, il_4, il_5, il_6, il_7, il_8, il_9, il_10, il_11, il_12, il_13, il_14, il_15, il_16, il_17, il_18, il_19, il_20, il_24, il_30, il_31, il_38, il_39, il_40, il_41, il_48, il_50, il_59, il_60, il_63, il_64, il_70, il_80, il_99, il_100, il_120, il_130, il_140, il_144, il_159, il_160, il_162, il_200, il_210, il_240, il_264, il_280, il_281, il_300, il_364, il_368, il_599, il_600, il_601, il_999, il_1610, il_1620, il_1800, il_4000, il_5000, il_7000, il_14500, il_58240, il_1000000, m1_e, nI_1, nI_add, pk_mul, pk_div, pk_sub, nI_clamp, nI_leI, nI_ltI, nI_eq, m1_lt, m1_le, m1_gt, m1_ge, m1_ne, m1_en, ix_nI, im_nI, and1, and3, sh2_, shr2, corner_nI, turned_nI, hn1, hA1, ht]
          refine ⟨trivial, by omega, fun z => by omega, fun _ => ⟨by omega, fun _ => ⟨by omega, by omega, nx _ ⟨fr_si F (by decide), ⟨f1, f2⟩, fun a ha => ?_, fun e he => ?_⟩⟩, fun z => (by first | omega | exact absurd trivial z | exact z.elim | exact absurd rfl z)⟩⟩
          · rw [i_si_s]
            unfold u1
            by_cases e : a = AN A j
            · rw [if_pos e, e, ct_y (p := fun x => AN A x = AN A j) rfl]
            · rw [if_neg e, ct_n (p := fun x => AN A x = a) (fun z => e z.symm)]
              exact e0 a ha
          · by_cases e2 : e = j
            · rw [e2]; exact q
            · exact e1 e (by omega)
      · clear F f1 f2 K1 e0 h1
        rintro h1 ⟨F, ⟨f1, f2⟩, e0, e1⟩
        refine X12_openOf_68 ?_
        have K1 := sp_fr K F
        have hn1 : ah_i h1 170 s = nI n := by rw [fr_i F 170 (by decide)]; exact hn
        simp (disch := omega) only [forall_eq, Option.some.injEq, exists_eq_left', Option.getD_some, n_sf, k_sf, f_sf_s, f_sf_n, r_sf, i_sf, l_sf, q_sf, ld0_sf, st0_sf, ld1_sf, ld2_sf, ld3_sf, ah_o_sf, in__sf, cp__sf, ah_x_sf, ah_ra_sf, n_si, k_si, f_si, r_si, i_si_s, i_si_n, l_si, q_si, ld0_si, st0_si, ld1_si, ld2_si, ld3_si, ah_o_si, in__si, cp__si, ah_x_si, ah_ra_si, n_sl, k_sl, f_sl, r_sl, i_sl, l_sl_s, l_sl_n, q_sl, ld0_sl, st0_sl, ld1_sl, ld2_sl, ld3_sl, ah_o_sl, in__sl, cp__sl, ah_x_sl, ah_ra_sl, n_wi, k_wi, f_wi, r_wi, i_wi_s, i_wi_n, l_wi, q_wi, ld0_wi, st0_wi, ld1_wi, ld2_wi, ld3_wi, ah_o_wi, in__wi, cp__wi, ah_x_wi, ah_ra_wi, n_wl, k_wl, f_wl, r_wl, i_wl, l_wl_s, l_wl_n, q_wl, ld0_wl, st0_wl, ld1_wl, ld2_wl, ld3_wl, ah_o_wl, in__wl, cp__wl, ah_x_wl, ah_ra_wl, n_sr, k_sr, f_sr, r_sr_s, r_sr_n, i_sr, l_sr, q_sr, n_sq, k_sq, f_sq, r_sq, i_sq, l_sq, q_sq_s, q_sq_n, o168 K1, r168_2 K1, s170 K1, t170 K1, r168_5 K1, s173 K1, t173 K1, r168_14 K1, s180 K1, t180 K1, il_0, il_1, il_2, il_3, il_4, il_5, il_6, il_7, il_8, il_9, il_10, il_11, il_12, il_13, il_14, il_15, il_16, il_17, il_18, il_19, il_20, il_24, il_30, il_31, il_38, il_39, il_40, il_41, il_48, il_50, il_59, il_60, il_63, il_64, il_70, il_80, il_99, il_100, il_120, il_130, il_140, il_144, il_159, il_160, il_162, il_200, il_210, il_240, il_264, il_280, il_281, il_300, il_364, il_368, il_599, il_600, il_601, il_999, il_1610, il_1620, il_1800, il_4000, il_5000, il_7000, il_14500, il_58240, il_1000000, m1_e, nI_1, nI_add, pk_mul, pk_div, pk_sub, nI_clamp, nI_leI, nI_ltI, nI_eq, m1_lt, m1_le, m1_gt, m1_ge, m1_ne, m1_en, ix_nI, im_nI, and1, and3, sh2_, shr2, corner_nI, turned_nI, hn1]
        refine ⟨trivial, by omega, fun _ => ?_, fun z => (by first | omega | exact absurd trivial z | exact z.elim | exact absurd rfl z)⟩
        have hA2 : ∀ e, e < 4 * n → ah_i h1 173 (160 * s + e) = nI (AN A e) := fun e he => by rw [fr_i F 173 (by decide), hA e he]; exact (PO_A O he (e1 e he)).1
        refine lp (4 * n) (fun j h' => h' = h1 ∧ ∀ e, e < j → ct (fun x => AN A x = AN A e) (4 * n) = 2) (fun j h' => ex_G mX12_openOf (d + 3) 124 [.ref 168, .int (nI s), .int (nI j), .retAddr 0] [] h' bc bs Q) ⟨rfl, fun c hc => absurd hc (Nat.not_lt_zero c)⟩ ?_ ?_
        · rintro j h2 hj ⟨e2, e3⟩ nx
          subst e2
          refine X12_openOf_124 ?_
          have w2 := (PO_A O hj (e1 j hj)).2
          have hA1 := hA2 j hj
          have ht := e0 (AN A j) w2
          have hcl := ct_le (fun x => AN A x = AN A j) (4 * n)
          simp (disch := omega) only [forall_eq, Option.some.injEq, exists_eq_left', Option.getD_some, n_sf, k_sf, f_sf_s, f_sf_n, r_sf, i_sf, l_sf, q_sf, ld0_sf, st0_sf, ld1_sf, ld2_sf, ld3_sf, ah_o_sf, in__sf, cp__sf, ah_x_sf, ah_ra_sf, n_si, k_si, f_si, r_si, i_si_s, i_si_n, l_si, q_si, ld0_si, st0_si, ld1_si, ld2_si, ld3_si, ah_o_si, in__si, cp__si, ah_x_si, ah_ra_si, n_sl, k_sl, f_sl, r_sl, i_sl, l_sl_s, l_sl_n, q_sl, ld0_sl, st0_sl, ld1_sl, ld2_sl, ld3_sl, ah_o_sl, in__sl, cp__sl, ah_x_sl, ah_ra_sl, n_wi, k_wi, f_wi, r_wi, i_wi_s, i_wi_n, l_wi, q_wi, ld0_wi, st0_wi, ld1_wi, ld2_wi, ld3_wi, ah_o_wi, in__wi, cp__wi, ah_x_wi, ah_ra_wi, n_wl, k_wl, f_wl, r_wl, i_wl, l_wl_s, l_wl_n, q_wl, ld0_wl, st0_wl, ld1_wl, ld2_wl, ld3_wl, ah_o_wl, in__wl, cp__wl, ah_x_wl, ah_ra_wl, n_sr, k_sr, f_sr, r_sr_s, r_sr_n, i_sr, l_sr, q_sr, n_sq, k_sq, f_sq, r_sq, i_sq, l_sq, q_sq_s, q_sq_n, o168 K1, r168_2 K1, s170 K1, t170 K1, r168_5 K1, s173 K1, t173 K1, r168_14 K1, s180 K1, t180 K1, il_0, il_1, il_2, il_3, il_4, il_5, il_6, il_7, il_8, il_9, il_10, il_11, il_12, il_13, il_14, il_15, il_16, il_17, il_18, il_19, il_20, il_24, il_30, il_31, il_38, il_39, il_40, il_41, il_48, il_50, il_59, il_60, il_63, il_64, il_70, il_80, il_99, il_100, il_120, il_130, il_140, il_144, il_159, il_160, il_162, il_200, il_210, il_240, il_264, il_280, il_281, il_300, il_364, il_368, il_599, il_600, il_601, il_999, il_1610, il_1620, il_1800, il_4000, il_5000, il_7000, il_14500, il_58240, il_1000000, m1_e, nI_1, nI_add, pk_mul, pk_div, pk_sub, nI_clamp, nI_leI, nI_ltI, nI_eq, m1_lt, m1_le, m1_gt, m1_ge, m1_ne, m1_en, ix_nI, im_nI, and1, and3, sh2_, shr2, corner_nI, turned_nI, hn1, hA1, ht]
          refine ⟨trivial, by omega, fun z => by omega, fun _ => ⟨by omega, by omega, fun z => nx _ ⟨rfl, fun e he => ?_⟩, fun z => k _ 3 (nI (j / 4)) (fr_sf F (by decide)) ?_ ?_ ?_ (fun w => absurd w (by decide))⟩⟩
          · by_cases e2 : e = j
            · rw [e2]; exact z
            · exact e3 e (by omega)
          · intro k hk
            simp (disch := omega) only [n_sf, k_sf, f_sf_s, f_sf_n, r_sf, i_sf, l_sf, q_sf, ld0_sf, st0_sf, ld1_sf, ld2_sf, ld3_sf, ah_o_sf, in__sf, cp__sf, ah_x_sf, ah_ra_sf, n_si, k_si, f_si, r_si, i_si_s, i_si_n, l_si, q_si, ld0_si, st0_si, ld1_si, ld2_si, ld3_si, ah_o_si, in__si, cp__si, ah_x_si, ah_ra_si, n_sl, k_sl, f_sl, r_sl, i_sl, l_sl_s, l_sl_n, q_sl, ld0_sl, st0_sl, ld1_sl, ld2_sl, ld3_sl, ah_o_sl, in__sl, cp__sl, ah_x_sl, ah_ra_sl, n_wi, k_wi, f_wi, r_wi, i_wi_s, i_wi_n, l_wi, q_wi, ld0_wi, st0_wi, ld1_wi, ld2_wi, ld3_wi, ah_o_wi, in__wi, cp__wi, ah_x_wi, ah_ra_wi, n_wl, k_wl, f_wl, r_wl, i_wl, l_wl_s, l_wl_n, q_wl, ld0_wl, st0_wl, ld1_wl, ld2_wl, ld3_wl, ah_o_wl, in__wl, cp__wl, ah_x_wl, ah_ra_wl, n_sr, k_sr, f_sr, r_sr_s, r_sr_n, i_sr, l_sr, q_sr, n_sq, k_sq, f_sq, r_sq, i_sq, l_sq, q_sq_s, q_sq_n, u1_n]
            exact f1 k hk
          · simp (disch := omega) only [n_sf, k_sf, f_sf_s, f_sf_n, r_sf, i_sf, l_sf, q_sf, ld0_sf, st0_sf, ld1_sf, ld2_sf, ld3_sf, ah_o_sf, in__sf, cp__sf, ah_x_sf, ah_ra_sf, n_si, k_si, f_si, r_si, i_si_s, i_si_n, l_si, q_si, ld0_si, st0_si, ld1_si, ld2_si, ld3_si, ah_o_si, in__si, cp__si, ah_x_si, ah_ra_si, n_sl, k_sl, f_sl, r_sl, i_sl, l_sl_s, l_sl_n, q_sl, ld0_sl, st0_sl, ld1_sl, ld2_sl, ld3_sl, ah_o_sl, in__sl, cp__sl, ah_x_sl, ah_ra_sl, n_wi, k_wi, f_wi, r_wi, i_wi_s, i_wi_n, l_wi, q_wi, ld0_wi, st0_wi, ld1_wi, ld2_wi, ld3_wi, ah_o_wi, in__wi, cp__wi, ah_x_wi, ah_ra_wi, n_wl, k_wl, f_wl, r_wl, i_wl, l_wl_s, l_wl_n, q_wl, ld0_wl, st0_wl, ld1_wl, ld2_wl, ld3_wl, ah_o_wl, in__wl, cp__wl, ah_x_wl, ah_ra_wl, n_sr, k_sr, f_sr, r_sr_s, r_sr_n, i_sr, l_sr, q_sr, n_sq, k_sq, f_sq, r_sq, i_sq, l_sq, q_sq_s, q_sq_n, u1_s]
          · exact Or.inr (Or.inr (Or.inl ⟨eL, e1, j, hj, z, e3, rfl, rfl⟩))
        · rintro h2 ⟨e2, e3⟩
          subst e2
          have hPd : Pd n (AN A) := fun e he => ⟨(PO_A O he (e1 e he)).2, e3 e he⟩
          have P := hPd.mt
          refine X12_openOf_124 ?_
          simp (disch := omega) only [forall_eq, Option.some.injEq, exists_eq_left', Option.getD_some, n_sf, k_sf, f_sf_s, f_sf_n, r_sf, i_sf, l_sf, q_sf, ld0_sf, st0_sf, ld1_sf, ld2_sf, ld3_sf, ah_o_sf, in__sf, cp__sf, ah_x_sf, ah_ra_sf, n_si, k_si, f_si, r_si, i_si_s, i_si_n, l_si, q_si, ld0_si, st0_si, ld1_si, ld2_si, ld3_si, ah_o_si, in__si, cp__si, ah_x_si, ah_ra_si, n_sl, k_sl, f_sl, r_sl, i_sl, l_sl_s, l_sl_n, q_sl, ld0_sl, st0_sl, ld1_sl, ld2_sl, ld3_sl, ah_o_sl, in__sl, cp__sl, ah_x_sl, ah_ra_sl, n_wi, k_wi, f_wi, r_wi, i_wi_s, i_wi_n, l_wi, q_wi, ld0_wi, st0_wi, ld1_wi, ld2_wi, ld3_wi, ah_o_wi, in__wi, cp__wi, ah_x_wi, ah_ra_wi, n_wl, k_wl, f_wl, r_wl, i_wl, l_wl_s, l_wl_n, q_wl, ld0_wl, st0_wl, ld1_wl, ld2_wl, ld3_wl, ah_o_wl, in__wl, cp__wl, ah_x_wl, ah_ra_wl, n_sr, k_sr, f_sr, r_sr_s, r_sr_n, i_sr, l_sr, q_sr, n_sq, k_sq, f_sq, r_sq, i_sq, l_sq, q_sq_s, q_sq_n, o168 K1, r168_2 K1, s170 K1, t170 K1, il_0, il_1, il_2, il_3, il_4, il_5, il_6, il_7, il_8, il_9, il_10, il_11, il_12, il_13, il_14, il_15, il_16, il_17, il_18, il_19, il_20, il_24, il_30, il_31, il_38, il_39, il_40, il_41, il_48, il_50, il_59, il_60, il_63, il_64, il_70, il_80, il_99, il_100, il_120, il_130, il_140, il_144, il_159, il_160, il_162, il_200, il_210, il_240, il_264, il_280, il_281, il_300, il_364, il_368, il_599, il_600, il_601, il_999, il_1610, il_1620, il_1800, il_4000, il_5000, il_7000, il_14500, il_58240, il_1000000, m1_e, nI_1, nI_add, pk_mul, pk_div, pk_sub, nI_clamp, nI_leI, nI_ltI, nI_eq, m1_lt, m1_le, m1_gt, m1_ge, m1_ne, m1_en, ix_nI, im_nI, and1, and3, sh2_, shr2, corner_nI, turned_nI, hn1]
          refine ⟨trivial, by omega, fun _ => ?_, fun z => (by first | omega | exact absurd trivial z | exact z.elim | exact absurd rfl z)⟩
          refine m_link K1 hs hn1 h40 hA2 P (fun h3 F3 g1 => ?_)
          have K3 := sp_fr K1 F3
          have hn3 : ah_i h3 170 s = nI n := by rw [fr_i F3 170 (by decide)]; exact hn1
          refine ⟨rfl, o168 K3, m_facesOf K3 hs hn3 h40 g1 P (fun h4 F4 => ?_)⟩
          have K4 := sp_fr K3 F4
          have hn4 : ah_i h4 170 s = nI n := by rw [fr_i F4 170 (by decide)]; exact hn3
          have g4 : ∀ e, e < 4 * n → ah_i h4 176 e = nI (mt n (AN A) e) := fun e he => by rw [fr_i F4 176 (by decide)]; exact g1 e he
          refine ⟨_, rfl, o168 K4, 170, r168_2 K4, (s170 K4 _).mpr ((ix_nI (by omega)).mpr hs), m_partsOf K4 hs hn4 h40 g4 P (fun h5 F5 g5 => ⟨_, rfl, ?_⟩)⟩
          have g6 : ∀ e, e < 4 * n → ah_i h5 176 e = nI (mt n (AN A) e) := fun e he => by rw [fr_i F5 176 (by decide)]; exact g4 e he
          have FF : fr [168, 176, 177, 178, 179, 180] h h5 := fr_trans F (fr_trans (fr_mono F3 (by decide)) (fr_trans (fr_mono F4 (by decide)) (fr_mono F5 (by decide))))
          have ff : ah_f h5 168 = ah_f h2 168 := by rw [fr_f F5 168 (by decide), fr_f F4 168 (by decide), fr_f F3 168 (by decide)]
          have l1 := nR_le n (mt n (AN A))
          have l2 := nP_le n (mt n (AN A))
          have hn5 : ah_i h4 170 s = nI n := hn4
          simp (disch := omega) only [il_0, il_1, il_2, il_3, il_4, il_5, il_6, il_7, il_8, il_9, il_10, il_11, il_12, il_13, il_14, il_15, il_16, il_17, il_18, il_19, il_20, il_24, il_30, il_31, il_38, il_39, il_40, il_41, il_48, il_50, il_59, il_60, il_63, il_64, il_70, il_80, il_99, il_100, il_120, il_130, il_140, il_144, il_159, il_160, il_162, il_200, il_210, il_240, il_264, il_280, il_281, il_300, il_364, il_368, il_599, il_600, il_601, il_999, il_1610, il_1620, il_1800, il_4000, il_5000, il_7000, il_14500, il_58240, il_1000000, m1_e, nI_1, nI_add, pk_mul, pk_div, pk_sub, nI_clamp, nI_leI, nI_ltI, nI_eq, m1_lt, m1_le, m1_gt, m1_ge, m1_ne, m1_en, ix_nI, im_nI, and1, and3, sh2_, shr2, corner_nI, turned_nI, hn5]
          constructor
          · intro z
            refine k h5 4 m1 FF (fun k hk => by rw [ff]; exact f1 k hk) (by rw [ff]; exact f2) ?_ (fun w => absurd w (by decide))
            exact Or.inr (Or.inr (Or.inr ⟨eL, e1, hPd, rfl, Or.inr ⟨z, rfl⟩⟩))
          · intro z
            refine k h5 0 m1 FF (fun k hk => by rw [ff]; exact f1 k hk) (by rw [ff]; exact f2) ?_ (fun _ => g6)
            exact Or.inr (Or.inr (Or.inr ⟨eL, e1, hPd, rfl, Or.inl ⟨z, rfl⟩⟩))
end OPN
