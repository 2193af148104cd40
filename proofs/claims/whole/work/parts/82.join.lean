/-! join. -/
section JOIN
variable {h h1 h2 h3 h9 hx hz : AH} {d bc bs : Nat} {Q : Option Value → AH → Prop} {W : Nat → Nat} {N : Nat} {B : Nat → Nat} {S : Nat → Int32} {len : Nat}
theorem WH_back (x : R1 h W N B S len) (F : fcs h h1) {p0 n l : Nat} (wh : WH h1 N B p0 n l) : WH h N B p0 n l ∧ ah_i h1 (B p0 + 2) = ah_i h (B p0 + 2) := by
  have hp := wh.1
  obtain ⟨-, -, -, hP⟩ := x.2.2.2.1
  have x1 := (hP p0 hp).2.1
  have e0 := F.2.1 (B p0) (cscr_no x1)
  have e1 := F.2.1 (B p0 + 1) (cscr_no (by omega))
  have e2 := F.2.1 (B p0 + 2) (cscr_no (by omega))
  unfold WH cD mD at wh ⊢
  rw [e0.2.1, e1.2.2.1, e2.2.2.1, (F.2.1 170 (by decide)).2.2.1, (F.2.1 171 (by decide)).2.2.1, (F.2.1 172 (by decide)).2.2.1, (F.2.1 173 (by decide)).2.2.1] at wh
  exact ⟨wh, e2.2.2.1⟩
theorem OP_back (x : R1 h W N B S len) (F : fcs h h1) {p0 n : Nat} (op : OP h1 N B p0 n) : OP h N B p0 n := by
  have hp := op.1
  obtain ⟨-, -, -, hP⟩ := x.2.2.2.1
  have x1 := (hP p0 hp).2.1
  have e0 := F.2.1 (B p0) (cscr_no x1)
  have e1 := F.2.1 (B p0 + 1) (cscr_no (by omega))
  have e2 := F.2.1 (B p0 + 2) (cscr_no (by omega))
  unfold OP at op ⊢
  rw [e0.2.1, e1.2.2.1, e2.2.2.1] at op
  exact op
theorem m_open_whole {p0 n l : Nat} (wh : WH h N B p0 n l) (h24 : N ≤ 24) (K : sp hz) (sl_ : sl h hz p0) (k : ∀ h', fms hz h' → (∀ e, e < 4 * n → ah_i h' 176 e = nI (mt n (AN (ah_i h (B p0 + 2))) e)) → Q (some (.int (nI 0))) h') : ex_S yX12_openOf mX12_openOf (d + 3) [.ref 168, .int (nI p0)] hz bc bs Q := by
  obtain ⟨hp, hn, h40, h9, ⟨pl, O⟩, C, M, R⟩ := wh
  have D := mD_sl M h40 sl_
  refine m_openOf (L := ah_i h (B p0 + 1)) (A := ah_i h (B p0 + 2)) K (by omega) D.1 ⟨h40, fun c hc => Or.inr ⟨4, by omega, C.2.2.1 c hc⟩, fun e he => Or.inr ⟨_, R.A100 he, C.2.2.2 e he⟩⟩ (fun c hc => by rw [D.2.2.1 c hc, C.2.2.1 c hc]) (fun e he => by rw [D.2.2.2 e he, C.2.2.2 e he]) (fun h' r pl' F f1 f2 f3 f4 => ?_)
  have hr := (opn_u f3 O).1
  subst hr
  exact k h' (fms_open F f1) (f4 rfl)
theorem m_open_open {p0 n : Nat} (x : R1 h W N B S len) (op : OP h N B p0 n) (K : sp hz) (sl_ : sl h hz p0) (k : ∀ h' r, r ≠ 0 → r ≤ 4 → fms hz h' → Q (some (.int (nI r))) h') : ex_S yX12_openOf mX12_openOf (d + 3) [.ref 168, .int (nI p0)] hz bc bs Q := by
  obtain ⟨hp, hn, h40, r, pl, r0, O⟩ := op
  obtain ⟨h24, hN, -, hP⟩ := x.2.2.2.1
  obtain ⟨-, -, -, -, ⟨n', l, y1, y2, y3, y4, y5, y6, y7, y8, y9⟩, -⟩ := (hP p0 hp).2
  have en : n' = n := by
    have := y6.1
    rw [y1, nI_eq (by omega) (by omega)] at hn
    exact hn
  subst en
  refine m_openOf K (by omega) (by rw [sl_.1]; exact y2) y6 (fun c hc => by rw [sl_.2.2.1 c (by omega)]; exact y7 c hc) (fun e he => by rw [sl_.2.2.2 e (by omega)]; exact y8 e he) (fun h' r' pl' F f1 f2 f3 f4 => ?_)
  have hr := (opn_u f3 O).1
  subst hr
  exact k h' r' r0 (opn_le O) (fms_open F f1)
theorem endVs {s n : Nat} (K : sp h) (hs : s < 368) (hn : ah_i h 170 s = nI n) (h40 : n ≤ 40) (a : Int32) : X12_isEnd_V 168 (nI s) a h = nI 0 ↔ ¬ ix a (4 * n) := by
  unfold X12_isEnd_V
  rw [r168_2 K, Option.getD_some, nI_clamp (by omega), hn, il_4, pk_mul]
  exact inx (by omega) h
theorem endCs {s : Nat} (K : sp h) (hs : s < 368) (a : Int32) : X12_isEnd_C 168 (nI s) a h := ⟨o168 K, 170, r168_2 K, (s170 K _).mpr ((ix_nI (by omega)).mpr hs), in_bo _ _ _ _, trivial⟩
theorem mD_congr {s n l : Nat} {A A' : Nat → Nat} (D : mD h s n l A) (e : ∀ x, x < 4 * n → A x = A' x) : mD h s n l A' := ⟨D.1, D.2.1, D.2.2.1, fun x hx => by rw [← e x hx]; exact D.2.2.2 x hx⟩
theorem apd_AJ {n1 c : Nat} {A1 G : Nat → Nat} : ∀ e, e < 4 * (n1 + c + 1) → apd (n1 + c) (AJ n1 A1 G) (G (4 * c)) (G (4 * c + 1)) (G (4 * c + 2)) (G (4 * c + 3)) e = AJ n1 A1 G e := by
  intro e he
  unfold apd
  by_cases q : e < 4 * (n1 + c)
  · rw [if_pos q]
  · rw [if_neg q]
    obtain ⟨i, rfl⟩ : ∃ i, e = 4 * n1 + (4 * c + i) := ⟨e - 4 * n1 - 4 * c, by omega⟩
    rw [AJ_2]
    rcases (show i = 0 ∨ i = 1 ∨ i = 2 ∨ i = 3 by omega) with z | z | z | z
    · subst z; rw [if_pos (by omega)]; rfl
    · subst z; rw [if_neg (by omega), if_pos (by omega)]
    · subst z; rw [if_neg (by omega), if_neg (by omega), if_pos (by omega)]
    · subst z; rw [if_neg (by omega), if_neg (by omega), if_neg (by omega)]
/-- the reference's loops over the second picture, behind the copy of the first -/
theorem m_joinLoop {p0 q0 n1 n2 l : Nat} {A1 A2 m2 G : Nat → Nat} {a b : Int32} (K : sp h) (hp : p0 < 24) (hq : q0 < 24) (D : mD h 364 n1 l A1) (hA1 : ∀ e, e < 4 * n1 → A1 e < 100) (R2 : Pr n2 A2 m2) (J : JG n1 (4 * n2) A1 m2 G) (h40 : n1 + n2 ≤ 40) (m170 : ah_i h 170 q0 = nI n2) (mA : ∀ e, e < 4 * n2 → ah_i h 173 (160 * q0 + e) = nI (A2 e))
    (k : ∀ h', fr [170, 171, 172, 173, 175, 179, 195, 196] h h' → (∀ t, t ≠ 364 → sl h h' t) → mD h' 364 (n1 + n2) l (AJ n1 A1 G) → ex_G mX12_join (d + 4) 181 [.ref 168, .int (nI p0), .int a, .int (nI q0), .int b, .int (nI n2), .retAddr 0, .retAddr 0, .retAddr 0, .retAddr 0] [] h' bc bs Q) : ex_G mX12_join (d + 4) 157 [.ref 168, .int (nI p0), .int a, .int (nI q0), .int b, .int (nI 0), .retAddr 0, .retAddr 0, .retAddr 0, .retAddr 0] [] h bc bs Q := by
  have hA2 := fun e he => R2.A100 (e := e) he
  refine lp 100 (fun j h' => fr [179] h h' ∧ ∀ y, y < j → ah_i h' 179 y = m1) (fun j h' => ex_G mX12_join (d + 4) 157 [.ref 168, .int (nI p0), .int a, .int (nI q0), .int b, .int (nI j), .retAddr 0, .retAddr 0, .retAddr 0, .retAddr 0] [] h' bc bs Q) ⟨fr_refl _ h, fun y hy => absurd hy (Nat.not_lt_zero y)⟩ ?_ ?_
  · rintro j h1 hj ⟨F, e0⟩ nx
    have K1 := sp_fr K F
    refine X12_join_157 ?_
    simp (disch := omega) only [o168 K1, r168_13 K1, s179 K1, t179 K1, forall_eq, Option.some.injEq, exists_eq_left', Option.getD_some, n_sf, k_sf, f_sf_s, f_sf_n, r_sf, i_sf, l_sf, q_sf, ld0_sf, st0_sf, ld1_sf, ld2_sf, ld3_sf, ah_o_sf, in__sf, cp__sf, ah_x_sf, ah_ra_sf, n_si, k_si, f_si, r_si, i_si_s, i_si_n, l_si, q_si, ld0_si, st0_si, ld1_si, ld2_si, ld3_si, ah_o_si, in__si, cp__si, ah_x_si, ah_ra_si, n_sl, k_sl, f_sl, r_sl, i_sl, l_sl_s, l_sl_n, q_sl, ld0_sl, st0_sl, ld1_sl, ld2_sl, ld3_sl, ah_o_sl, in__sl, cp__sl, ah_x_sl, ah_ra_sl, n_wi, k_wi, f_wi, r_wi, i_wi_s, i_wi_n, l_wi, q_wi, ld0_wi, st0_wi, ld1_wi, ld2_wi, ld3_wi, ah_o_wi, in__wi, cp__wi, ah_x_wi, ah_ra_wi, n_wl, k_wl, f_wl, r_wl, i_wl, l_wl_s, l_wl_n, q_wl, ld0_wl, st0_wl, ld1_wl, ld2_wl, ld3_wl, ah_o_wl, in__wl, cp__wl, ah_x_wl, ah_ra_wl, n_sr, k_sr, f_sr, r_sr_s, r_sr_n, i_sr, l_sr, q_sr, n_sq, k_sq, f_sq, r_sq, i_sq, l_sq, q_sq_s, q_sq_n, il_0, il_1, il_2, il_3, il_4, il_5, il_6, il_7, il_8, il_9, il_10, il_11, il_12, il_13, il_14, il_15, il_16, il_17, il_18, il_19, il_20, il_24, il_30, il_31, il_38, il_39, il_40, il_41, il_48, il_50, il_59, il_60, il_63, il_64, il_70, il_80, il_99, il_100, il_120, il_130, il_140, il_144, il_159, il_160, il_162, il_200, il_210, il_240, il_264, il_280, il_281, il_300, il_364, il_368, il_599, il_600, il_601, il_999, il_1610, il_1620, il_1800, il_4000, il_5000, il_7000, il_14500, il_58240, il_1000000, m1_e, nI_1, nI_add, pk_mul, pk_div, pk_sub, nI_clamp, nI_leI, nI_ltI, nI_eq, m1_lt, m1_le, m1_gt, m1_ge, m1_ne, m1_en, ix_nI, im_nI, and1, and3, sh2_, shr2, corner_nI, turned_nI]
    refine ⟨fun w => by omega, fun _ => ⟨trivial, hj, nx _ ⟨fr_si F (by decide), fun y hy => ?_⟩⟩⟩
    rw [i_si_s]
    by_cases q : y = j
    · rw [q, u1_s]
    · rw [u1_n _ _ q]; exact e0 y (by omega)
  · rintro h1 ⟨F, e0⟩
    refine X12_join_157 ⟨fun _ => ?_, fun w => absurd (show (100 : Int32) ≤ nI 100 by decide) w⟩
    refine lp n2 (fun c h' => fr [170, 171, 172, 173, 175, 179, 195, 196] h h' ∧ (∀ t, t ≠ 364 → sl h h' t) ∧ mD h' 364 (n1 + c) l (AJ n1 A1 G) ∧ (∀ e, e < 4 * c → ah_i h' 179 (A2 e) = nI (G e)) ∧ ∀ y, y < 100 → (∀ e, e < 4 * c → A2 e ≠ y) → ah_i h' 179 y = m1) (fun c h' => ex_G mX12_join (d + 4) 181 [.ref 168, .int (nI p0), .int a, .int (nI q0), .int b, .int (nI c), .retAddr 0, .retAddr 0, .retAddr 0, .retAddr 0] [] h' bc bs Q) ⟨fr_mono F (by decide), fun t _ => sl_of t (fr_i F 170 (by decide)) (fr_i F 171 (by decide)) (fr_i F 172 (by decide)) (fr_i F 173 (by decide)), mD_congr (mD_sc D F (by decide)) (fun e he => (AJ_1 (by omega)).symm), fun e he => absurd he (Nat.not_lt_zero e), fun y hy _ => e0 y hy⟩ ?_ (fun h' I => k h' I.1 I.2.1 I.2.2.1)
    rintro c h2 hc ⟨F2, s2, D2, g2, z2⟩ nx
    have K2 := sp_fr K F2
    have n2_ : ah_i h2 170 q0 = nI n2 := by rw [(s2 q0 (by omega)).1]; exact m170
    refine X12_join_181 ⟨o168 K2, 170, r168_2 K2, (s170 K2 _).mpr ((ix_nI (by omega)).mpr (by omega)), ?_⟩
    rw [nI_clamp (by omega), n2_, nI_leI (by omega) (by omega)]
    refine ⟨fun w => by omega, fun _ => ?_⟩
    refine lp 4 (fun i h' => fr [170, 171, 172, 173, 175, 179, 195, 196] h h' ∧ (∀ t, t ≠ 364 → sl h h' t) ∧ mD h' 364 (n1 + c) l (AJ n1 A1 G) ∧ (∀ e, e < 4 * c + i → ah_i h' 179 (A2 e) = nI (G e)) ∧ (∀ y, y < 100 → (∀ e, e < 4 * c + i → A2 e ≠ y) → ah_i h' 179 y = m1) ∧ ∀ i', i' < i → ah_i h' 175 i' = nI (G (4 * c + i'))) (fun i h' => ex_G mX12_join (d + 4) 195 [.ref 168, .int (nI p0), .int a, .int (nI q0), .int b, .int (nI c), .int (nI i), .retAddr 0, .retAddr 0, .retAddr 0] [] h' bc bs Q) ⟨F2, s2, D2, g2, z2, fun i hi => absurd hi (Nat.not_lt_zero i)⟩ ?_ ?_
    · rintro i h3 hi ⟨F3, s3, D3, g3, z3, v3⟩ ny
      have K3 := sp_fr K F3
      have he : 4 * c + i < 4 * n2 := by omega
      have hy := hA2 _ he
      have hml := R2.lt he
      have ne := R2.ne he
      have ar : ah_i h3 173 (160 * q0 + 4 * c + i) = nI (A2 (4 * c + i)) := by
        rw [Nat.add_assoc, (s3 q0 (by omega)).2.2.2 _ (by omega)]
        exact mA _ he
      have Glt := (JG_lt R2 J he).1
      have put : ∀ h4, fr [195] h3 h4 → ex_G mX12_join (d + 4) 252 [.ref 168, .int (nI p0), .int a, .int (nI q0), .int b, .int (nI c), .int (nI i), .int (nI (A2 (4 * c + i))), .retAddr 0, .retAddr 0] [.int (nI (G (4 * c + i))), .int (nI (A2 (4 * c + i))), .ref 179] h4 bc bs Q := by
        intro h4 F4
        have K4 := sp_fr K3 F4
        refine X12_join_252 ?_
        have key : ∀ h7, h7 = ah_si (ah_si h4 179 (A2 (4 * c + i)) (nI (G (4 * c + i)))) 175 i (nI (G (4 * c + i))) → ex_G mX12_join (d + 4) 195 [.ref 168, .int (nI p0), .int a, .int (nI q0), .int b, .int (nI c), .int (nI (i + 1)), .retAddr 0, .retAddr 0, .retAddr 0] [] h7 bc bs Q := by
          intro h7 e7
          have F7 : fr [175, 179] h4 h7 := by rw [e7]; exact fr_si (fr_si (fr_refl _ h4) (by decide)) (by decide)
          have i79 : ah_i h7 179 = u1 (ah_i h3 179) (A2 (4 * c + i)) (nI (G (4 * c + i))) := by rw [e7, i_si_n _ _ _ _ _ (by decide), i_si_s, fr_i F4 179 (by decide)]
          have i75 : ah_i h7 175 = u1 (ah_i h3 175) i (nI (G (4 * c + i))) := by rw [e7, i_si_s, i_si_n _ _ _ _ _ (by decide), fr_i F4 175 (by decide)]
          have s7 : ∀ t, sl h3 h7 t := fun t => sl_of t (by rw [fr_i F7 170 (by decide), fr_i F4 170 (by decide)]) (by rw [fr_i F7 171 (by decide), fr_i F4 171 (by decide)]) (by rw [fr_i F7 172 (by decide), fr_i F4 172 (by decide)]) (by rw [fr_i F7 173 (by decide), fr_i F4 173 (by decide)])
          refine ny h7 ⟨fr_trans F3 (fr_trans (fr_mono F4 (by decide)) (fr_mono F7 (by decide))), fun t ht => sl_trans (s3 t ht) (s7 t), mD_sl D3 (by omega) (s7 364), fun e he' => ?_, fun y hy' w => ?_, fun i' hi' => ?_⟩
          · rw [i79]
            by_cases q : A2 e = A2 (4 * c + i)
            · rw [q, u1_s]
              have : G e = G (4 * c + i) := (JG_eq R2 J he (f := e) (by omega)).mpr ((R2.eq he (by omega)).mp q)
              rw [this]
            · rw [u1_n _ _ q]
              have : e ≠ 4 * c + i := fun z => q (by rw [z])
              exact g3 e (by omega)
          · rw [i79, u1_n _ _ (fun z => w (4 * c + i) (by omega) z.symm)]
            exact z3 y hy' (fun e he' => w e (by omega))
          · rw [i75]
            by_cases q : i' = i
            · rw [q, u1_s]
            · rw [u1_n _ _ q]; exact v3 i' (by omega)
        simp (disch := omega) only [o168 K4, r168_8 K4, s175 K4, t175 K4, r168_13 K4, s179 K4, t179 K4, u1_s, forall_eq, Option.some.injEq, exists_eq_left', Option.getD_some, n_sf, k_sf, f_sf_s, f_sf_n, r_sf, i_sf, l_sf, q_sf, ld0_sf, st0_sf, ld1_sf, ld2_sf, ld3_sf, ah_o_sf, in__sf, cp__sf, ah_x_sf, ah_ra_sf, n_si, k_si, f_si, r_si, i_si_s, i_si_n, l_si, q_si, ld0_si, st0_si, ld1_si, ld2_si, ld3_si, ah_o_si, in__si, cp__si, ah_x_si, ah_ra_si, n_sl, k_sl, f_sl, r_sl, i_sl, l_sl_s, l_sl_n, q_sl, ld0_sl, st0_sl, ld1_sl, ld2_sl, ld3_sl, ah_o_sl, in__sl, cp__sl, ah_x_sl, ah_ra_sl, n_wi, k_wi, f_wi, r_wi, i_wi_s, i_wi_n, l_wi, q_wi, ld0_wi, st0_wi, ld1_wi, ld2_wi, ld3_wi, ah_o_wi, in__wi, cp__wi, ah_x_wi, ah_ra_wi, n_wl, k_wl, f_wl, r_wl, i_wl, l_wl_s, l_wl_n, q_wl, ld0_wl, st0_wl, ld1_wl, ld2_wl, ld3_wl, ah_o_wl, in__wl, cp__wl, ah_x_wl, ah_ra_wl, n_sr, k_sr, f_sr, r_sr_s, r_sr_n, i_sr, l_sr, q_sr, n_sq, k_sq, f_sq, r_sq, i_sq, l_sq, q_sq_s, q_sq_n, il_0, il_1, il_2, il_3, il_4, il_5, il_6, il_7, il_8, il_9, il_10, il_11, il_12, il_13, il_14, il_15, il_16, il_17, il_18, il_19, il_20, il_24, il_30, il_31, il_38, il_39, il_40, il_41, il_48, il_50, il_59, il_60, il_63, il_64, il_70, il_80, il_99, il_100, il_120, il_130, il_140, il_144, il_159, il_160, il_162, il_200, il_210, il_240, il_264, il_280, il_281, il_300, il_364, il_368, il_599, il_600, il_601, il_999, il_1610, il_1620, il_1800, il_4000, il_5000, il_7000, il_14500, il_58240, il_1000000, nI_clamp, ix_nI, nI_add]
        exact ⟨by omega, trivial, by omega, by omega, key _ rfl⟩
      refine X12_join_195 ⟨fun w => absurd w (nI_ge (b := 4) (a := i) (by omega) (by omega)), fun _ => ⟨o168 K3, 173, r168_5 K3, ?_⟩⟩
      have ee : (160 : Int32) * nI q0 + 4 * nI c + nI i = nI (160 * q0 + 4 * c + i) := by rw [il_160, il_4, pk_mul, pk_mul, nI_add, nI_add]
      rw [ee, s173 K3, ix_nI (by omega), nI_clamp (by omega), ar]
      refine ⟨by omega, fun x13 e13 => ⟨179, r168_13 K3, ?_⟩⟩
      subst e13
      rw [s179 K3, ix_nI (by omega), nI_clamp (by omega)]
      by_cases old : m2 (4 * c + i) < 4 * c + i
      · have v : ah_i h3 179 (A2 (4 * c + i)) = nI (G (4 * c + i)) := by
          have := g3 (m2 (4 * c + i)) old
          rw [R2.ar he] at this
          rw [this, (J _ he).1 old]
        rw [v]
        exact ⟨hy, fun _ => put h3 (fr_refl _ _), fun w => absurd w (m1_ne (by omega))⟩
      · have v : ah_i h3 179 (A2 (4 * c + i)) = m1 := by
          refine z3 _ hy (fun e he' q => ?_)
          rcases (R2.eq he (f := e) (by omega)).mp q with z | z
          · omega
          · omega
        rw [v]
        refine ⟨hy, fun w => absurd rfl w, fun _ => m_fresh (d := d + 2) (U := ju n1 A1 G (4 * c + i)) (n := n1 + c) (w := G (4 * c + i)) K3 D3 (by omega) (fun e he' => ?_) (fun y hy' => ?_) (fun x hx => ?_) ((J _ he).2 (by omega)) (fun h4 F4 => ⟨_, rfl, put h4 F4⟩)⟩
        · by_cases q : e < 4 * n1
          · rw [AJ_1 q]; exact hA1 e q
          · obtain ⟨e', rfl⟩ : ∃ e', e = 4 * n1 + e' := ⟨e - 4 * n1, by omega⟩
            rw [AJ_2]
            exact (JG_lt R2 J (by omega)).1
        · by_cases q : ∃ e, e < 4 * c + i ∧ A2 e = y
          · obtain ⟨e, e1, e2⟩ := q
            refine Or.inr ⟨G e, (JG_lt R2 J (by omega)).1, ?_⟩
            rw [← e2]
            exact g3 e e1
          · exact Or.inl (z3 y hy' (fun e e1 e2 => q ⟨e, e1, e2⟩))
        · constructor
          · rintro (⟨e, e1, e2⟩ | ⟨e, e1, e2⟩)
            · exact Or.inl ⟨e, by omega, by rw [AJ_1 e1]; exact e2⟩
            · exact Or.inr ⟨A2 e, hA2 e (by omega), by rw [← e2]; exact g3 e e1⟩
          · rintro (⟨e, e1, e2⟩ | ⟨y, e1, e2⟩)
            · by_cases q : e < 4 * n1
              · rw [AJ_1 q] at e2
                exact Or.inl ⟨e, q, e2⟩
              · obtain ⟨e', rfl⟩ : ∃ e', e = 4 * n1 + e' := ⟨e - 4 * n1, by omega⟩
                rw [AJ_2] at e2
                exact Or.inr ⟨e', by omega, e2⟩
            · by_cases q : ∃ e, e < 4 * c + i ∧ A2 e = y
              · obtain ⟨e, w1, w2⟩ := q
                have := g3 e w1
                rw [w2, e2, nI_eq (by omega) (by have := (JG_lt R2 J (e := e) (by omega)).1; omega)] at this
                exact Or.inr ⟨e, w1, this.symm⟩
              · rw [z3 y e1 (fun e w1 w2 => q ⟨e, w1, w2⟩)] at e2
                exact absurd e2 (m1_en (by omega))
    · rintro h3 ⟨F3, s3, D3, g3, z3, v3⟩
      have K3 := sp_fr K F3
      refine X12_join_195 ⟨fun _ => ⟨o168 K3, 175, r168_8 K3, (s175 K3 _).mpr ((ix_nI (i := 0) (by decide)).mpr (by decide)), (s175 K3 _).mpr ((ix_nI (i := 1) (by decide)).mpr (by decide)), (s175 K3 _).mpr ((ix_nI (i := 2) (by decide)).mpr (by decide)), (s175 K3 _).mpr ((ix_nI (i := 3) (by decide)).mpr (by decide)), ?_⟩, fun w => absurd (show (4 : Int32) ≤ nI 4 by decide) w⟩
      have t0 : ah_i h3 175 ((0 : Int32).toNatClampNeg) = nI (G (4 * c)) := v3 0 (by decide)
      have t1 : ah_i h3 175 ((1 : Int32).toNatClampNeg) = nI (G (4 * c + 1)) := v3 1 (by decide)
      have t2 : ah_i h3 175 ((2 : Int32).toNatClampNeg) = nI (G (4 * c + 2)) := v3 2 (by decide)
      have t3 : ah_i h3 175 ((3 : Int32).toNatClampNeg) = nI (G (4 * c + 3)) := v3 3 (by decide)
      rw [t0, t1, t2, t3]
      refine m_appD (s := 364) K3 (by decide) D3 (by omega) (fun h4 F4 D4 => ⟨rfl, fun x9 e9 => ?_⟩)
      rw [nI_1] at e9
      subst e9
      refine nx h4 ⟨fr_trans F3 (fr_mono F4.1 (by decide)), fun t ht => sl_trans (s3 t ht) (F4.2 t ht), mD_congr D4 (fun e he' => apd_AJ e he'), fun e he' => ?_, fun y hy' w => ?_⟩
      · rw [fr_i F4.1 179 (by decide)]; exact g3 e (by omega)
      · rw [fr_i F4.1 179 (by decide)]; exact z3 y hy' (fun e e1 => w e (by omega))
/-- the joined picture's arcs -/
def jA (n1 : Nat) (A1 G m1_ m2 : Nat → Nat) (a b z : Nat) : Nat → Nat := u1 (u1 (u1 (AJ n1 A1 G) (4 * n1 + b) (A1 a)) (m1_ a) z) (4 * n1 + m2 b) z
theorem m_join_go {p0 q0 n1 n2 l1 l2 z : Nat} {G : Nat → Nat} (wh1 : WH h N B p0 n1 l1) (wh2 : WH h N B q0 n2 l2) (K : sp hz) (hN2 : ah_f hz 168 6 = nI N) (h24 : N < 24) (sl_ : ∀ t, sl h hz t) (a b : Int32) (J : n1 + n2 ≤ 40 → JG n1 (4 * n2) (AN (ah_i h (B p0 + 2))) (mt n2 (AN (ah_i h (B q0 + 2)))) G) (fz : n1 + n2 ≤ 40 → fa (us (n1 + n2) (AJ n1 (AN (ah_i h (B p0 + 2))) G)) 0 z)
    (k5 : (¬ ix a (4 * n1) ∨ ¬ ix b (4 * n2)) → ∀ h', fms hz h' → Q (some (.int (-nI 15))) (mF h' 5))
    (k8 : ix a (4 * n1) → ix b (4 * n2) → (40 < n1 + n2 ∨ 9 < l1 + l2) → ∀ h', fms hz h' → Q (some (.int (-nI 18))) (mF h' 8))
    (k : ∀ a0 b0 h', a = nI a0 → a0 < 4 * n1 → b = nI b0 → b0 < 4 * n2 → n1 + n2 ≤ 40 → l1 + l2 ≤ 9 → fms hz h' → mD h' 364 (n1 + n2) (l1 + l2) (jA n1 (AN (ah_i h (B p0 + 2))) G (mt n1 (AN (ah_i h (B p0 + 2)))) (mt n2 (AN (ah_i h (B q0 + 2)))) a0 b0 z) → ex_S yX12_added mX12_added (d + 3) [.ref 168, .int 364] h' 0 0 (fun r h27 => ∃ x28, r = some (.int x28) ∧ Q (some (.int x28)) h27)) : ex_S yX12_join mX12_join (d + 4) [.ref 168, .int (nI p0), .int a, .int (nI q0), .int b] hz bc bs Q := by
  have hp := wh1.1
  have hq := wh2.1
  have h41 := wh1.2.2.1
  have h42 := wh2.2.2.1
  have l9 := wh1.2.2.2.1
  have l9' := wh2.2.2.2.1
  have R1 := wh1.2.2.2.2.2.2.2
  have R2 := wh2.2.2.2.2.2.2.2
  have iv := isP_ (h := hz) (p := nI p0) (N := N) hN2 (by omega)
  have iv2 := isP_ (h := hz) (p := nI q0) (N := N) hN2 (by omega)
  have c24 : ¬ ah_f hz 168 6 = 24 := fun w => by
    rw [hN2] at w
    have := (nI_eq (b := 24) (by omega) (by omega)).mp w
    omega
  have meet : ∀ (f : Nat) (h' : AH), f ≤ 9 → sp h' → Q (some (.int (-nI (10 + f)))) (mF h' f) → X12_meets_C 168 (nI f) h' ∧ ∀ h12, h12 = X12_meets_H 168 (nI f) h' → Q (some (.int (X12_meets_V 168 (nI f) h'))) h12 := fun f h' hf K' q => ⟨meC K' hf, fun h12 e12 => by rw [e12.trans (meH K' hf), meV]; exact q⟩
  refine X12_join_e (X12_join_0 ⟨o168 K, isPC K _, fun w => absurd ((ix_nI (by omega)).mpr hp) (iv.mp w), fun _ => ⟨isPC K _, fun _ => ⟨fun _ => m_open_whole wh1 (by omega) K (sl_ p0) (fun h9 G9 g9 => ⟨_, rfl, fun w => absurd w (show ¬ (0 : Int32) < nI 0 by decide), fun _ => ⟨o168 (G9.2.2.1 K), m_open_whole wh2 (by omega) (G9.2.2.1 K) (sl_trans (sl_ q0) (G9.2.2.2.2 q0 (by omega))) (fun h15 G15 g15 => ⟨_, rfl, fun _ => ⟨o168 (G15.2.2.1 (G9.2.2.1 K)), ?_⟩, fun w => absurd (show nI 0 ≤ (0 : Int32) by decide) w⟩)⟩⟩), fun w => absurd w c24⟩, fun w => absurd ((ix_nI (by omega)).mpr hq) (iv2.mp w)⟩⟩)
  have G0 := fms_trans G9 G15
  have K15 := G0.2.2.1 K
  have D1 : mD h15 p0 n1 l1 (AN (ah_i h (B p0 + 2))) := mD_sl (mD_sl wh1.2.2.2.2.2.2.1 h41 (sl_ p0)) h41 (G0.2.2.2.2 p0 (by omega))
  have D2 : mD h15 q0 n2 l2 (AN (ah_i h (B q0 + 2))) := mD_sl (mD_sl wh2.2.2.2.2.2.2.1 h42 (sl_ q0)) h42 (G0.2.2.2.2 q0 (by omega))
  have ea := endVs K15 (s := p0) (by omega) D1.1 h41 a
  have eb := endVs K15 (s := q0) (by omega) D2.1 h42 b
  refine ⟨endCs K15 (by omega) a, fun w => meet 5 h15 (by decide) K15 (k5 (Or.inl (ea.mp w)) h15 G0), fun w => ⟨endCs K15 (by omega) b, fun w2 => ⟨170, r168_2 K15, (s170 K15 _).mpr ((ix_nI (by omega)).mpr (by omega)), (s170 K15 _).mpr ((ix_nI (by omega)).mpr (by omega)), ?_⟩, fun w2 => meet 5 h15 (by decide) K15 (k5 (Or.inr (eb.mp w2)) h15 G0)⟩⟩
  have ia : ix a (4 * n1) := Classical.not_not.mp (fun z => w (ea.mpr z))
  have ib : ix b (4 * n2) := Classical.not_not.mp (fun z => w2 (eb.mpr z))
  have c40 : (40 : Int32) < nI (n1 + n2) ↔ 40 < n1 + n2 := nI_ltI (a := 40) (by omega) (by omega)
  rw [nI_clamp (by omega), nI_clamp (by omega), D1.1, D2.1, nI_add, c40]
  refine ⟨fun big => meet 8 h15 (by decide) K15 (k8 ia ib (Or.inl big) h15 G0), fun small => ⟨171, r168_3 K15, (s171 K15 _).mpr ((ix_nI (by omega)).mpr (by omega)), (s171 K15 _).mpr ((ix_nI (by omega)).mpr (by omega)), ?_⟩⟩
  have c9 : nI (l1 + l2) ≤ 9 ↔ l1 + l2 ≤ 9 := nI_leI (b := 9) (by omega) (by omega)
  rw [D1.2.1, D2.2.1, nI_add, c9]
  refine ⟨fun le9 => ?_, fun big => meet 8 h15 (by decide) K15 (k8 ia ib (Or.inr (by omega)) h15 G0)⟩
  obtain ⟨a0, ha0, rfl⟩ := ix_of ia (by omega)
  obtain ⟨b0, hb0, rfl⟩ := ix_of ib (by omega)
  have h40 : n1 + n2 ≤ 40 := by omega
  have J := J h40
  have fz := fz h40
  refine m_copyS K15 (s := p0) (t := 364) (by omega) (by decide) (by omega) D1.1 h41 (fun h36 F36 s36 c36 => ⟨rfl, o168 (sp_fr K15 F36), 171, r168_3 (sp_fr K15 F36), (s171 (sp_fr K15 F36) _).mpr ix364, (s171 (sp_fr K15 F36) _).mpr ((ix_nI (by omega)).mpr (by omega)), (t171 (sp_fr K15 F36) _).mpr ix364, fun h41_ e41 => ?_⟩)
  have K36 := sp_fr K15 F36
  have D36 := mD_sC D1 h41 c36
  have D36q := mD_sl D2 h42 (s36 q0 (by omega))
  have l364 : ah_i h36 171 ((364 : Int32).toNatClampNeg) = nI l1 := D36.2.1
  rw [l364, D36q.2.1, nI_add] at e41
  have e41' : h41_ = ah_si h36 171 364 (nI (l1 + l2)) := e41
  have F41 : fr [171] h36 h41_ := by rw [e41']; exact fr_si (fr_refl _ _) (by decide)
  have s41 : ∀ t, t ≠ 364 → sl h36 h41_ t := fun t ht => by rw [e41']; exact sl_171 ht
  have D41 : mD h41_ 364 n1 (l1 + l2) (AN (ah_i h (B p0 + 2))) := by
    refine ⟨?_, ?_, ?_, ?_⟩
    · rw [fr_i F41 170 (by decide)]; exact D36.1
    · rw [e41', i_si_s, u1_s]
    · rw [fr_i F41 172 (by decide)]; exact D36.2.2.1
    · rw [fr_i F41 173 (by decide)]; exact D36.2.2.2
  clear e41 e41' l364
  have K41 := sp_fr K36 F41
  have D41q := mD_sl D36q h42 (s41 q0 (by omega))
  have G41 : fms hz h41_ := fms_trans G0 (fms_trans (fms_copy F36 s36) (fms_fr F41 (by decide) (fun k _ => by rw [fr_f F41 168 (by decide)]) (fun s hs => s41 s (by omega))))
  refine m_joinLoop K41 (by omega) (by omega) D41 (fun e he => R1.A100 he) R2 J h40 D41q.1 D41q.2.2.2 (fun h50 F50 s50 D50 => ?_)
  have K50 := sp_fr K41 F50
  have G50 : fms hz h50 := fms_trans G41 (fms_fr F50 (by decide) (fun k _ => by rw [fr_f F50 168 (by decide)]) (fun s hs => s50 s (by omega)))
  have D50q := mD_sl D41q h42 (s50 q0 (by omega))
  have RJ := AJ_Pr R1 R2 J
  refine X12_join_181 ⟨o168 K50, 170, r168_2 K50, (s170 K50 _).mpr ((ix_nI (by omega)).mpr (by omega)), ?_⟩
  rw [nI_clamp (by omega), D50q.1]
  refine ⟨fun _ => m_link (s := 364) K50 (by decide) D50.1 h40 D50.2.2.2 RJ (fun h51 F51 g51 => ⟨rfl, o168 (sp_fr K50 F51), 170, r168_2 (sp_fr K50 F51), (s170 (sp_fr K50 F51) _).mpr ((ix_nI (by omega)).mpr (by omega)), fun x9 e9 => ?_⟩), fun w => absurd ((nI_leI (by omega) (by omega)).mpr (Nat.le_refl n2)) w⟩
  have K51 := sp_fr K50 F51
  have D51 := mD_sc D50 F51 (by decide)
  have G51 := fms_trans G50 (fms_sc F51 (by decide))
  have D51p : ah_i h51 170 p0 = nI n1 := by
    rw [fr_i F51 170 (by decide), (s50 p0 (by omega)).1, (s41 p0 (by omega)).1, (s36 p0 (by omega)).1]
    exact D1.1
  have e9' : x9 = nI (4 * n1 + b0) := by rw [e9, nI_clamp (by omega), D51p, il_4, pk_mul, nI_add]
  subst e9'
  have hAJ := fun e he => RJ.A100 (e := e) he
  refine m_freeX K51 D51 h40 hAJ fz m1p (fun h52 F52 => ⟨_, rfl, o168 (sp_fr K51 F52), ?_⟩)
  have K52 := sp_fr K51 F52
  have D52 := mD_sc D51 F52 (by decide)
  have G52 := fms_trans G51 (fms_sc F52 (by decide))
  have aa : a0 < 4 * (n1 + n2) := by omega
  have bb : 4 * n1 + b0 < 4 * (n1 + n2) := by omega
  have ma := R1.lt ha0
  have mb := R2.lt hb0
  rw [arcV K52 D52 h40 aa, AJ_1 ha0]
  have m1v : ah_i h52 176 a0 = nI (mt n1 (AN (ah_i h (B p0 + 2))) a0) := by rw [fr_i F52 176 (by decide), g51 a0 aa, mJ_1 ha0]
  have m2v : ah_i h52 176 (4 * n1 + b0) = nI (4 * n1 + mt n2 (AN (ah_i h (B q0 + 2))) b0) := by rw [fr_i F52 176 (by decide), g51 _ bb, mJ_2]
  refine ⟨arcC K52 h40 aa, fun x14 e14 => ⟨176, r168_10 K52, ?_⟩⟩
  subst e14
  rw [s176 K52, s176 K52, ix_nI (by omega), ix_nI (by omega), nI_clamp (by omega), nI_clamp (by omega), m1v, m2v]
  refine ⟨by omega, fun x17 e17 => ⟨by omega, fun x19 e19 => ⟨173, r168_5 K52, ?_⟩⟩⟩
  subst e17
  subst e19
  have p1 := m_putX D52 (x := 4 * n1 + b0) (by omega) (AN (ah_i h (B p0 + 2)) a0)
  have p2 := m_putX p1.2 (x := mt n1 (AN (ah_i h (B p0 + 2))) a0) (by omega) z
  have p3 := m_putX p2.2 (x := 4 * n1 + mt n2 (AN (ah_i h (B q0 + 2))) b0) (by omega) z
  have fin := k a0 b0 _ rfl ha0 rfl hb0 h40 le9 (fms_trans G52 (fS_fms (fS_trans p1.1 (fS_trans p2.1 p3.1)))) p3.2
  simp (disch := omega) only [o168 K52, r168_5 K52, s173 K52, t173 K52, nI_add, nI_clamp, ix_nI, forall_eq, Option.some.injEq, exists_eq_left', Option.getD_some, n_sf, k_sf, f_sf_s, f_sf_n, r_sf, i_sf, l_sf, q_sf, ld0_sf, st0_sf, ld1_sf, ld2_sf, ld3_sf, ah_o_sf, in__sf, cp__sf, ah_x_sf, ah_ra_sf, n_si, k_si, f_si, r_si, i_si_s, i_si_n, l_si, q_si, ld0_si, st0_si, ld1_si, ld2_si, ld3_si, ah_o_si, in__si, cp__si, ah_x_si, ah_ra_si, n_sl, k_sl, f_sl, r_sl, i_sl, l_sl_s, l_sl_n, q_sl, ld0_sl, st0_sl, ld1_sl, ld2_sl, ld3_sl, ah_o_sl, in__sl, cp__sl, ah_x_sl, ah_ra_sl, n_wi, k_wi, f_wi, r_wi, i_wi_s, i_wi_n, l_wi, q_wi, ld0_wi, st0_wi, ld1_wi, ld2_wi, ld3_wi, ah_o_wi, in__wi, cp__wi, ah_x_wi, ah_ra_wi, n_wl, k_wl, f_wl, r_wl, i_wl, l_wl_s, l_wl_n, q_wl, ld0_wl, st0_wl, ld1_wl, ld2_wl, ld3_wl, ah_o_wl, in__wl, cp__wl, ah_x_wl, ah_ra_wl, n_sr, k_sr, f_sr, r_sr_s, r_sr_n, i_sr, l_sr, q_sr, n_sq, k_sq, f_sq, r_sq, i_sq, l_sq, q_sq_s, q_sq_n, il_0, il_1, il_2, il_3, il_4, il_5, il_6, il_7, il_8, il_9, il_10, il_11, il_12, il_13, il_14, il_15, il_16, il_17, il_18, il_19, il_20, il_24, il_30, il_31, il_38, il_39, il_40, il_41, il_48, il_50, il_59, il_60, il_63, il_64, il_70, il_80, il_99, il_100, il_120, il_130, il_140, il_144, il_159, il_160, il_162, il_200, il_210, il_240, il_264, il_280, il_281, il_300, il_364, il_368, il_599, il_600, il_601, il_999, il_1610, il_1620, il_1800, il_4000, il_5000, il_7000, il_14500, il_58240, il_1000000]
  exact ⟨by omega, by omega, by omega, fin⟩
end JOIN
