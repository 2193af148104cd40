/-! move. -/
section MOVE
variable {h h2 h9 : AH} {d bc bs : Nat} {Q : Option Value → AH → Prop} {W : Nat → Nat} {N : Nat} {B : Nat → Nat} {S : Nat → Int32} {len : Nat} {M : Nat}
theorem D_move {kd : Nat} {x1 x2 x3 : Int32} (x : R0 h W N B S len) (hM : ah_f h 0 16 = nI M) (hM2 : ah_f h 168 35 = nI M) (h60 : M < 60) (hk : kd < 6) (hmax : ah_n h < 10000000)
    (n9 : ah_n h9 = ah_n h + 1) (E : ∀ a, a ≠ ah_n h → a ≠ 0 → a ≠ 2 → a ≠ 168 → a ≠ 197 → eqc h h9 a) (kr : ∀ a, a < 216 → ah_k h9 a = ah_k h a ∧ ah_r h9 a = ah_r h a) (q9 : ah_q h9 34 = ah_q h 34 ∧ ah_q h9 84 = ah_q h 84)
    (f0 : ah_f h9 0 = u1 (u1 (ah_f h 0) 16 (nI (M + 1))) 19 (nI 0)) (f168 : ah_f h9 168 = u1 (u1 (ah_f h 168) 35 (nI (M + 1))) 0 (nI 0)) (q2 : ah_q h9 2 = u1 (ah_q h 2) M (some (ah_n h))) (i7 : ah_i h9 197 = u4 (ah_i h 197) (4 * M) (nI kd) x1 x2 x3) (mo : mo_ h9 (ah_n h) kd x1 x2 x3) : DONE h h9 W S len := by
  obtain ⟨y, x0, xl, x2_, x3_, x4, ⟨x5, x6, x7⟩, x8, x9, x10⟩ := x
  have h216 := x0.1
  have hn : ah_n h ≤ ah_n h9 := by omega
  have big : ∀ a, 216 ≤ a → a < ah_n h → eqc h h9 a := fun a a1 a2 => E a (by omega) (by omega) (by omega) (by omega) (by omega)
  have lo : ∀ a, a < 216 → a ≠ 0 ∧ a ≠ 2 ∧ a ≠ 168 ∧ a ≠ 197 → eqc h h9 a := fun a ha z => E a (by omega) z.1 z.2.1 z.2.2.1 z.2.2.2
  have hW : ∀ a, a < ah_n h → (fun a => if a = ah_n h then 100 + M else W a) a = W a := fun a ha => if_neg (by omega)
  have e0 : ∀ k, k ≠ 16 → k ≠ 19 → ah_f h9 0 k = ah_f h 0 k := fun k k1 k2 => by rw [f0, u1_n _ _ k2, u1_n _ _ k1]
  have e1 : ∀ k, k ≠ 35 → k ≠ 0 → ah_f h9 168 k = ah_f h 168 k := fun k k1 k2 => by rw [f168, u1_n _ _ k2, u1_n _ _ k1]
  have hsl : ∀ s, sl h h9 s := fun s => sl_of s (lo 170 (by decide) (by decide)).2.2.1 (lo 171 (by decide) (by decide)).2.2.1 (lo 172 (by decide) (by decide)).2.2.1 (lo 173 (by decide) (by decide)).2.2.1
  refine ⟨fun a => if a = ah_n h then 100 + M else W a, N, B, ⟨⟨by rw [f0, u1_s, f168, u1_s], ?_, ?_, ?_⟩, ?_, ?_, OLD_eq x2_ (fun a ha => E a (by omega) (by omega) (by omega) (by omega) (by omega)), PS_eq x3_ hW (e0 15 (by decide) (by decide)) (e1 6 (by decide) (by decide)) (lo 1 (by decide) (by decide)).2.2.2.2.2 (lo 174 (by decide) (by decide)).2.2.1 (fun a a1 a2 _ => big a a1 a2) (fun s _ => hsl s) hn, ?_, ⟨NU_eq x5 (lo 3 (by decide) (by decide)).2.1 (e1 29 (by decide) (by decide)) (lo 4 (by decide) (by decide)).2.2.1 (lo 191 (by decide) (by decide)).2.2.1, NU_eq x6 (lo 5 (by decide) (by decide)).2.1 (e1 38 (by decide) (by decide)) (lo 6 (by decide) (by decide)).2.2.1 (lo 198 (by decide) (by decide)).2.2.1, NU_eq x7 (lo 134 (by decide) (by decide)).2.1 (e1 59 (by decide) (by decide)) (lo 135 (by decide) (by decide)).2.2.1 (lo 212 (by decide) (by decide)).2.2.1⟩, RS_eq x8 (lo 73 (by decide) (by decide)) (e1 22 (by decide) (by decide)) (lo 74 (by decide) (by decide)).2.2.2.1 (lo 75 (by decide) (by decide)).2.2.2.1 (lo 186 (by decide) (by decide)).2.2.2.1, SPn_eq x9 (lo 32 (by decide) (by decide)).2.1 (e1 23 (by decide) (by decide)), BK_eq x10 hW (lo 164 (by decide) (by decide)).2.1 (e1 62 (by decide) (by decide)) (lo 165 (by decide) (by decide)).2.2.2.1 (lo 166 (by decide) (by decide)).2.2.2.2.2 (lo 214 (by decide) (by decide)).2.2.2.1 (lo 215 (by decide) (by decide)).2.2.2.1 (fun a a1 a2 _ _ => big a a1 a2) hn⟩, ⟨fun a ha => E a (by omega) (by omega) (by omega) (by omega) (by omega), fun k k1 k2 => e1 k (by omega) (by omega), fun s _ _ => hsl s⟩, hW, hn, by omega⟩
  · rw [e0 17 (by decide) (by decide), e1 15 (by decide) (by decide)]; exact y.2.1
  · rw [e0 18 (by decide) (by decide), e1 60 (by decide) (by decide)]; exact y.2.2.1
  · intro k a1 a2
    rw [(lo 167 (by decide) (by decide)).2.2.1, (lo 169 (by decide) (by decide)).2.2.1]
    exact y.2.2.2 k a1 a2
  · refine ⟨by omega, fun a ha => (kr a ha).1.trans (x0.2.1 a ha), fun t ht => ?_⟩
    have lt : ∀ t ∈ R0L, t.1 < 216 := by decide +kernel
    rw [(kr t.1 (lt t ht)).2]
    exact x0.2.2 t ht
  · obtain ⟨y1, y2, y3⟩ := xl
    refine ⟨fun b hb => ?_, fun i hi => ?_, ?_⟩
    · rw [(kr b (by omega)).2]; exact y1 b hb
    · rw [q9.1]; exact y2 i hi
    · rw [q9.2]; exact y3
  · obtain ⟨M', m1_, m2, m3, m4⟩ := x4
    have eM : M' = M := by
      have := m2.symm.trans hM
      rw [nI_eq (by omega) (by omega)] at this
      exact this
    subst eM
    refine ⟨M' + 1, by omega, by rw [f0, u1_n _ _ (by decide), u1_s], by rw [f168, u1_n _ _ (by decide), u1_s], fun k hk' => ?_⟩
    by_cases z : k = M'
    · subst z
      obtain ⟨o0_, o1, o2, o3, o4⟩ := mo
      refine ⟨ah_n h, kd, by rw [q2, u1_s], h216, o0_, if_pos rfl, hk, o1, ?_, ?_, ?_, ?_⟩
      · rw [i7, u4_c (by omega) (by omega), if_pos rfl]
      · rw [i7, u4_c (by omega) (by omega), if_neg (by omega), if_pos rfl, o2]
      · rw [i7, u4_c (by omega) (by omega), if_neg (by omega), if_neg (by omega), if_pos rfl, o3]
      · rw [i7, u4_c (by omega) (by omega), if_neg (by omega), if_neg (by omega), if_neg (by omega), o4]
    · obtain ⟨a, kd', z1, z2, z3, z4, z5, z6, z7, z8, z9, z10⟩ := m4 k (by omega)
      have ea := big a z2 z3.1
      refine ⟨a, kd', by rw [q2, u1_n _ _ z]; exact z1, z2, ah_o_eq z3 ea hn, (hW a z3.1).trans z4, z5, by rw [ea.2.1]; exact z6, ?_, ?_, ?_, ?_⟩
      · rw [i7, u4_n (by omega)]; exact z7
      · rw [i7, u4_n (by omega), ea.2.1]; exact z8
      · rw [i7, u4_n (by omega), ea.2.1]; exact z9
      · rw [i7, u4_n (by omega), ea.2.1]; exact z10
theorem st_move (x : R0 h W N B S len) (hmax : ah_n h < 10000000) (k a b c : Int32) : ST yX11_move mX11_move yX12_move mX12_move (d + 2) (d + 1) [.int k, .int a, .int b, .int c] h (bc + 1) (bs + 4) W S len := by
  have K := x.2.1
  have h216 := K.1
  obtain ⟨M, h60, hM, hM2, hMv⟩ := x.2.2.2.2.2.1
  have ik : X11_isKind_V k h = 0 ↔ ¬ ix k 6 := isK k
  have c60 : nI M < 60 ↔ M < 60 := nI_ltI (b := 60) (by omega) (by omega)
  refine X11_move_e (X11_move_0 ⟨fun w => ⟨o0 K, ?_⟩, fun w => ⟨o0 K, c_no K 2 (by decide) ⟨_, rfl, _, rfl, ?_⟩⟩⟩)
  · rw [hM, c60]
    have i6 : ix k 6 := Classical.not_not.mp (fun z => w (ik.mpr z))
    obtain ⟨kd, hkd, ek⟩ := ix_of i6 (by decide)
    refine ⟨fun m60 => ⟨2, r0_1 K, hmax, fun h6 e6 => ?_⟩, fun m60 => c_no K 3 (by decide) ⟨_, rfl, _, rfl, ?_⟩⟩
    · have n6 : ah_n h6 = ah_n h + 1 := by rw [e6]; exact n_no _ _
      have k6 : ah_k h6 (ah_n h) = (25, 0) := by rw [e6]; exact k_no_s _ _
      have q6 : ∀ z, z ≠ ah_n h → eqc h h6 z := fun z hz => by rw [e6]; exact eqc_no h 5 hz
      clear e6
      have o6 : ah_o h6 (ah_n h) 5 := ⟨by omega, by rw [k6]⟩
      refine X5_init_e (X5_init_0 ⟨o6, ?_⟩)
      intro h7 e7 h7b e7b h7c e7c h8 e8
      have F8 : fr [ah_n h] h6 h8 := by
        rw [e8, e7c, e7b, e7]
        exact fr_sf (fr_sf (fr_sf (fr_sf (fr_refl _ h6) List.mem_cons_self) List.mem_cons_self) List.mem_cons_self) List.mem_cons_self
      have v0 : ah_f h8 (ah_n h) 0 = k := by rw [e8, e7c, e7b, e7, f_sf_s, u1_n _ _ (by decide), f_sf_s, u1_n _ _ (by decide), f_sf_s, u1_n _ _ (by decide), f_sf_s, u1_s]
      have v1 : ah_f h8 (ah_n h) 1 = a := by rw [e8, e7c, e7b, f_sf_s, u1_n _ _ (by decide), f_sf_s, u1_n _ _ (by decide), f_sf_s, u1_s]
      have v2 : ah_f h8 (ah_n h) 2 = b := by rw [e8, e7c, f_sf_s, u1_n _ _ (by decide), f_sf_s, u1_s]
      have v3 : ah_f h8 (ah_n h) 3 = c := by rw [e8, f_sf_s, u1_s]
      clear e8 e7c e7b e7
      have nm : ∀ z, z ≠ ah_n h → z ∉ [ah_n h] := fun z hz => by simp only [List.mem_cons, List.not_mem_nil, or_false]; exact hz
      have q8 : ∀ z, z ≠ ah_n h → eqc h h8 z := fun z hz => eqc_trans (q6 z hz) (eqc_fr F8 (nm z hz))
      have n8 : ah_n h8 = ah_n h + 1 := by rw [F8.1.1]; exact n6
      have K8 : sp h8 := sp_lo K (by omega) (fun z hz => q8 z (by omega))
      have mo8 : mo_ h8 (ah_n h) kd a b c := ⟨⟨by omega, by rw [F8.1.2.1]; exact congrArg Prod.fst k6⟩, v0.trans ek, v1, v2, v3⟩
      have hM8 : ah_f h8 0 16 = nI M := by rw [(q8 0 (by omega)).2.1]; exact hM
      refine ⟨rfl, ?_⟩
      rw [s2 K8, ix_nI (by omega), nI_clamp (by omega)]
      refine ⟨m60, mo8.1, fun h10 e10 => ?_⟩
      have f10 : ah_f h10 = ah_f h8 := by rw [e10, f_sq]
      have q10 : ∀ z, z ≠ 2 → eqc h8 h10 z := fun z hz => by rw [e10]; exact ⟨by rw [k_sq], by rw [f_sq], by rw [i_sq], by rw [l_sq], by rw [r_sq], q_sq_n _ _ _ _ _ hz⟩
      have u10 : ah_q h10 2 = u1 (ah_q h 2) M (some (ah_n h)) := by rw [e10, q_sq_s, (q8 2 (by omega)).2.2.2.2.2]
      have n10 : ah_n h10 = ah_n h + 1 := by rw [e10, n_sq]; exact n8
      have r10 : ah_k h10 2 = ah_k h 2 ∧ ah_r h10 2 = ah_r h 2 := ⟨by rw [e10, k_sq]; exact (q8 2 (by omega)).1, by rw [e10, r_sq]; exact (q8 2 (by omega)).2.2.2.2.1⟩
      clear e10
      have K10 : sp h10 := by
        refine ⟨by omega, fun z hz => ?_, fun t ht => ?_⟩
        · by_cases z2 : z = 2
          · rw [z2, r10.1]; exact K.2.1 2 (by decide)
          · rw [(q10 z z2).1]; exact K8.2.1 z hz
        · by_cases z2 : t.1 = 2
          · rw [z2, r10.2, ← z2]; exact K.2.2 t ht
          · rw [(q10 t.1 z2).2.2.2.2.1]; exact K8.2.2 t ht
      refine ⟨o0 K10, fun h12 e12 => ?_⟩
      rw [f10, hM8, nI_1] at e12
      have v12 : ah_f h12 0 16 = nI (M + 1) := by rw [e12, f_sf_s, u1_s]
      have F12 : fr [0] h10 h12 := by rw [e12]; exact fr_sf (fr_refl _ h10) (by decide)
      have g12 : ah_f h12 0 = u1 (ah_f h 0) 16 (nI (M + 1)) := by rw [e12, f_sf_s, f10, (q8 0 (by omega)).2.1]
      clear e12
      have K12 := sp_fr K10 F12
      have ev : nI (M + 1) - 1 = nI M := pk_sub (a := M + 1) (b := 1) (by omega)
      refine ⟨grC K12 _, fun h14 e14 => ⟨_, rfl, ?_⟩⟩
      have e14' : h14 = cNo h12 (nI 0) := e14
      have F14 : fr [0] h12 h14 := by rw [e14']; exact fr_sf (fr_refl _ h12) (by decide)
      have g14 : ah_f h14 0 = u1 (u1 (ah_f h 0) 16 (nI (M + 1))) 19 (nI 0) := by rw [e14']; unfold cNo; rw [f_sf_s, g12]
      rw [grV, v12, ev]
      clear e14 e14'
      have K14 := sp_fr K12 F14
      have F0 : fr [0] h10 h14 := fr_trans F12 F14
      have all : ∀ z, z ≠ ah_n h → z ≠ 0 → z ≠ 2 → eqc h h14 z := fun z z1 z2 z3 => eqc_trans (q8 z z1) (eqc_trans (q10 z z3) (eqc_fr F0 (by simp only [List.mem_cons, List.not_mem_nil, or_false]; exact z2)))
      have mo14 : mo_ h14 (ah_n h) kd a b c := by
        obtain ⟨o0_, o1, o2, o3, o4⟩ := mo8
        have e := eqc_trans (q10 (ah_n h) (by omega)) (eqc_fr F0 (by simp only [List.mem_cons, List.not_mem_nil, or_false]; omega))
        exact ⟨⟨by rw [F0.1.1]; omega, by rw [e.1]; exact o0_.2⟩, by rw [e.2.1]; exact o1, by rw [e.2.1]; exact o2, by rw [e.2.1]; exact o3, by rw [e.2.1]; exact o4⟩
      have kr14 : ∀ z, z < 216 → ah_k h14 z = ah_k h z ∧ ah_r h14 z = ah_r h z := fun z hz => by
        rw [F0.1.2.1, F0.1.2.2.1]
        by_cases z2 : z = 2
        · rw [z2]; exact r10
        · exact ⟨(q10 z z2).1.trans (q8 z (by omega)).1, (q10 z z2).2.2.2.2.1.trans (q8 z (by omega)).2.2.2.2.1⟩
      have qq14 : ah_q h14 = ah_q h10 := F0.1.2.2.2
      have n14 : ah_n h14 = ah_n h + 1 := by rw [F0.1.1]; exact n10
      have hM14 : ah_f h14 168 35 = nI M := by rw [(all 168 (by omega) (by decide) (by decide)).2.1]; exact hM2
      have i14 : ah_i h14 197 = ah_i h 197 := (all 197 (by omega) (by decide) (by decide)).2.2.1
      have u14 : ah_q h14 2 = u1 (ah_q h 2) M (some (ah_n h)) := by rw [qq14]; exact u10
      have x34 : ah_q h14 34 = ah_q h 34 := (all 34 (by omega) (by decide) (by decide)).2.2.2.2.2
      have x84 : ah_q h14 84 = ah_q h 84 := (all 84 (by omega) (by decide) (by decide)).2.2.2.2.2
      have f168 : ah_f h14 168 = ah_f h 168 := (all 168 (by omega) (by decide) (by decide)).2.1
      have key : ∀ h9, h9 = mNo (ah_sf (ah_si (ah_si (ah_si (ah_si h14 197 (4 * M) k) 197 (4 * M + 1) a) 197 (4 * M + 2) b) 197 (4 * M + 3) c) 168 35 (nI (M + 1))) (nI 0) → DONE h h9 W S len := by
        intro h9 e9
        have F9 : fr [168, 197] h14 h9 := by rw [e9]; exact fr_sf (fr_sf (fr_si (fr_si (fr_si (fr_si (fr_refl _ _) (by decide)) (by decide)) (by decide)) (by decide)) (by decide)) (by decide)
        have i9 : ah_i h9 197 = u4 (ah_i h 197) (4 * M) (nI kd) a b c := by
          rw [e9, i_mNo, i_sf, i_si_s, i_si_s, i_si_s, i_si_s, i14, ek]
          rfl
        have f9 : ah_f h9 168 = u1 (u1 (ah_f h 168) 35 (nI (M + 1))) 0 (nI 0) := by rw [e9]; unfold mNo; rw [f_sf_s, f_sf_s, f_si, f_si, f_si, f_si, f168]
        have nn : ∀ z, z ≠ 168 → z ≠ 197 → z ∉ [168, 197] := fun z z1 z2 => by simp only [List.mem_cons, List.not_mem_nil, or_false]; omega
        refine D_move x hM hM2 m60 hkd hmax (by rw [F9.1.1]; exact n14) (fun z z1 z2 z3 z4 z5 => eqc_trans (all z z1 z2 z3) (eqc_fr F9 (nn z z4 z5))) (fun z hz => by rw [F9.1.2.1, F9.1.2.2.1]; exact kr14 z hz) ⟨by rw [F9.1.2.2.2]; exact x34, by rw [F9.1.2.2.2]; exact x84⟩ (by rw [fr_f F9 0 (by decide)]; exact g14) f9 (by rw [F9.1.2.2.2]; exact u14) i9 (mo_fr mo14 F9 (nn _ (by omega) (by omega)))
      have hin := in05 (v := k) h14
      refine X12_move_e (X12_move_0 ⟨fun _ => ⟨o168 K14, fun _ => ?_, fun w => ?_⟩, fun w => absurd i6 (hin.mp w)⟩)
      · have ev2 : nI (M + 1) - nI 1 = nI M := pk_sub (a := M + 1) (b := 1) (by omega)
        simp (disch := omega) only [o168 K14, r168_36 K14, s197 K14, t197 K14, hM14, u1_s, forall_eq, Option.some.injEq, exists_eq_left', Option.getD_some, n_sf, k_sf, f_sf_s, f_sf_n, r_sf, i_sf, l_sf, q_sf, ld0_sf, st0_sf, ld1_sf, ld2_sf, ld3_sf, ah_o_sf, in__sf, cp__sf, ah_x_sf, ah_ra_sf, n_si, k_si, f_si, r_si, i_si_s, i_si_n, l_si, q_si, ld0_si, st0_si, ld1_si, ld2_si, ld3_si, ah_o_si, in__si, cp__si, ah_x_si, ah_ra_si, n_sl, k_sl, f_sl, r_sl, i_sl, l_sl_s, l_sl_n, q_sl, ld0_sl, st0_sl, ld1_sl, ld2_sl, ld3_sl, ah_o_sl, in__sl, cp__sl, ah_x_sl, ah_ra_sl, n_wi, k_wi, f_wi, r_wi, i_wi_s, i_wi_n, l_wi, q_wi, ld0_wi, st0_wi, ld1_wi, ld2_wi, ld3_wi, ah_o_wi, in__wi, cp__wi, ah_x_wi, ah_ra_wi, n_wl, k_wl, f_wl, r_wl, i_wl, l_wl_s, l_wl_n, q_wl, ld0_wl, st0_wl, ld1_wl, ld2_wl, ld3_wl, ah_o_wl, in__wl, cp__wl, ah_x_wl, ah_ra_wl, n_sr, k_sr, f_sr, r_sr_s, r_sr_n, i_sr, l_sr, q_sr, n_sq, k_sq, f_sq, r_sq, i_sq, l_sq, q_sq_s, q_sq_n, il_0, il_1, il_2, il_3, il_4, il_5, il_6, il_7, il_8, il_9, il_10, il_11, il_12, il_13, il_14, il_15, il_16, il_17, il_18, il_19, il_20, il_24, il_30, il_31, il_38, il_39, il_40, il_41, il_48, il_50, il_59, il_60, il_63, il_64, il_70, il_80, il_99, il_100, il_120, il_130, il_140, il_144, il_159, il_160, il_162, il_200, il_210, il_240, il_264, il_280, il_281, il_300, il_364, il_368, il_599, il_600, il_601, il_999, il_1610, il_1620, il_1800, il_4000, il_5000, il_7000, il_14500, il_58240, il_1000000, nI_clamp, ix_nI, nI_add, pk_mul, ev2, weV, weH]
        exact ⟨by omega, by omega, by omega, by omega, weC (sp_fr (L := [168, 197]) K14 (fr_sf (fr_si (fr_si (fr_si (fr_si (fr_refl _ _) (by decide)) (by decide)) (by decide)) (by decide)) (by decide))) _, trivial, key _ rfl⟩
      · rw [hM14] at w
        have := (nI_eq (b := 60) (by omega) (by omega)).mp w
        omega
    · obtain ⟨q1, q3, q4, q5⟩ := see_no x (fcs_refl h) (-nI 3)
      have eM : M = 60 := by omega
      have w60 : ah_f (cNo h (-nI 3)) 168 35 = 60 := by rw [q1, hM2, eM]; rfl
      have hin := in05 (v := k) (cNo h (-nI 3))
      exact X12_move_e (X12_move_0 ⟨fun _ => ⟨o168 q4, fun w => absurd w60 w, fun _ => ⟨noC q4 _, fun h8 e8 => ⟨rfl, by rw [e8]; exact D_no x (fcs_refl h) (-nI 3) (fms_refl _)⟩⟩⟩, fun w => absurd i6 (hin.mp w)⟩)
  · obtain ⟨q1, q3, q4, q5⟩ := see_no x (fcs_refl h) (-nI 2)
    have hin := in05 (v := k) (cNo h (-nI 2))
    exact X12_move_e (X12_move_0 ⟨fun z => absurd (hin.mpr (ik.mp w)) z, fun _ => ⟨o168 q4, noC q4 _, fun h8 e8 => ⟨rfl, by rw [e8]; exact D_no x (fcs_refl h) (-nI 2) (fms_refl _)⟩⟩⟩)
end MOVE
