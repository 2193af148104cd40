/-! undo. -/
section UNDO
variable {h h' : AH} {d bc bs : Nat} {Q : Option Value → AH → Prop} {W : Nat → Nat} {N : Nat} {B : Nat → Nat} {S : Nat → Int32} {len : Nat}
theorem c_goBack0 {b : Nat} (P : pt h b) (f5 : ah_f h b 5 = nI 0) (k : Q (some (.int (nI 0))) h) : ex_S yX7_goBack mX7_goBack (d + 2) [.ref b] h bc bs Q := by
  refine X7_goBack_e (X7_goBack_0 ⟨pt_o P, fun _ => k, fun a3 ea => ⟨fun z => ?_, fun _ => k⟩⟩)
  rw [f5] at z
  exact absurd z (by decide)
theorem st_undo (x : R0 h W N B S len) (hmax : ah_n h ≤ 10000000) (p : Int32) : ST yX11_undo mX11_undo yX12_undo mX12_undo (d + 3) (d + 2) [.int p] h bc bs W S len := by
  have K := x.2.1
  obtain ⟨h24, hN, hN2, hP⟩ := x.2.2.2.2.1
  refine X11_undo_e (X11_undo_0 ?_)
  by_cases hp : ix p N
  · obtain ⟨p0, hp0, rfl⟩ := ix_of hp (by omega)
    obtain ⟨x1, x2, pt1, ⟨w0, w1, w2⟩, -, ⟨hc, nx, a1, a2, a3, a4, a5, a6⟩⟩ := (hP p0 hp0).2
    have hq := (hP p0 hp0).1
    have hp24 : p0 < 24 := by omega
    have hp36 : p0 < 368 := by omega
    have bx := pt1.1
    simp (disch := omega) only [o0 K, hasPC K, hasP hN h24, hp, r0_0 K, s1 K, hq, hp24, pt_o pt1, forall_eq, Option.some.injEq, exists_eq_left', Option.getD_some, Value.int.injEq, Value.long.injEq, not_true_eq_false, not_false_eq_true, false_implies, true_implies, forall_const, implies_true, and_true, true_and, Classical.not_not, il_0, il_1, il_2, il_3, il_4, il_5, il_6, il_7, il_8, il_9, il_10, il_11, il_12, il_13, il_14, il_15, il_16, il_17, il_18, il_19, il_20, il_24, il_30, il_31, il_38, il_39, il_40, il_41, il_48, il_50, il_59, il_60, il_63, il_64, il_70, il_80, il_99, il_100, il_120, il_130, il_140, il_144, il_159, il_160, il_162, il_200, il_210, il_240, il_264, il_280, il_281, il_300, il_364, il_368, il_599, il_600, il_601, il_999, il_1610, il_1620, il_1800, il_4000, il_5000, il_7000, il_14500, il_58240, il_1000000, m1_e, nI_1, nI_add, pk_mul, pk_div, pk_sub, nI_clamp, nI_leI, nI_ltI, nI_eq, m1_lt, m1_le, m1_gt, m1_ge, m1_ne, m1_en, ix_nI, im_nI, and1, and3, sh2_, shr2, corner_nI, turned_nI]
    by_cases hz : hc = 0
    · subst hz
      refine c_goBack0 pt1 a4 ⟨_, rfl, fun _ => ⟨o0 K, c_f K 5 (by decide) (by decide) ⟨_, rfl, ?_⟩⟩, fun z => absurd rfl z⟩
      have Kc : sp (cF h 5) := (R1_cF x.2 (fcs_refl h) 5).1
      have q6 : ah_f (cF h 5) 168 6 = nI N := by unfold cF; rw [f_si, f_sf_n _ _ _ _ _ (by decide)]; exact hN2
      have q4 : ah_i (cF h 5) 174 p0 = nI 0 := by unfold cF; rw [i_si_n _ _ _ _ _ (by decide), i_sf]; exact a3
      refine X12_undo_e (X12_undo_0 ?_)
      simp (disch := omega) only [o168 Kc, isPC Kc, isP_ q6 h24, hp, r168_7 Kc, s174 Kc, q4, hp24, meC Kc, meH Kc, meV, forall_eq, Option.some.injEq, exists_eq_left', Option.getD_some, Value.int.injEq, Value.long.injEq, not_true_eq_false, not_false_eq_true, false_implies, true_implies, forall_const, implies_true, and_true, true_and, Classical.not_not, il_0, il_1, il_2, il_3, il_4, il_5, il_6, il_7, il_8, il_9, il_10, il_11, il_12, il_13, il_14, il_15, il_16, il_17, il_18, il_19, il_20, il_24, il_30, il_31, il_38, il_39, il_40, il_41, il_48, il_50, il_59, il_60, il_63, il_64, il_70, il_80, il_99, il_100, il_120, il_130, il_140, il_144, il_159, il_160, il_162, il_200, il_210, il_240, il_264, il_280, il_281, il_300, il_364, il_368, il_599, il_600, il_601, il_999, il_1610, il_1620, il_1800, il_4000, il_5000, il_7000, il_14500, il_58240, il_1000000, m1_e, nI_1, nI_add, pk_mul, pk_div, pk_sub, nI_clamp, nI_leI, nI_ltI, nI_eq, m1_lt, m1_le, m1_gt, m1_ge, m1_ne, m1_en, ix_nI, im_nI, and1, and3, sh2_, shr2, corner_nI, turned_nI]
      exact D_f x (fcs_refl h) (by decide) (by decide) (fms_refl _)
    · rcases a6 with a6 | ⟨T, t1, t2, t3, t4, t5, t6⟩
      · exact absurd a6.2 hz
      · have hT : T ≠ B p0 ∧ T ≠ B p0 + 1 ∧ T ≠ B p0 + 2 := by
          refine ⟨fun e => ?_, fun e => ?_, fun e => ?_⟩
          · have := pt1.2.1.2
            rw [← e, t4.2] at this
            simp at this
          · have := pt1.2.2.2.2.1.2
            rw [← e, t4.2] at this
            simp at this
          · have := pt1.2.2.2.2.2.2
            rw [← e, t4.2] at this
            simp at this
        obtain ⟨n0, l0, s1_, s2_, s3_, s4_, s5_, s6_, s7_, s8_⟩ := t6 (hc - 1) (by omega)
        have er : (nx + 10 - hc + (hc - 1)) % 10 = (nx + 9) % 10 := by rw [show nx + 10 - hc + (hc - 1) = nx + 9 by omega]
        rw [er] at s3_ s5_ s8_
        have sb : 24 + 10 * p0 + (hc - 1) < 368 := by omega
        refine c_goBack pt1 t1 t4 hT (by omega) (by omega) a1 a2 a4 a5 s3_ s5_ s1_ (fun hb F1 g1 g2 g3 => ⟨_, rfl, fun z => absurd z (by decide), fun _ => ?_⟩)
        have Kb := sp_fr K F1
        have ptb := pt_fr pt1 F1
        have hqb : ah_q hb 1 p0 = some (B p0) := by rw [F1.1.2.2.2]; exact hq
        have v5 : ah_f hb (B p0) 5 = nI (hc - 1) := by rw [g1, u1_n _ _ (by decide), u1_n _ _ (by decide), u1_s]
        refine ⟨o0 Kb, 1, r0_0 Kb, (s1 Kb _).mpr ((ix_nI (by omega)).mpr hp24), B p0, hqb, pt_o ptb, ⟨o0 Kb, trivial⟩, ?_⟩
        rw [grV, grH, v5]
        have fb : fp p0 W h (cNo hb (nI 0)) := fp_trans (fp_fr F1 (fun a ha => by
          simp only [List.mem_cons, List.not_mem_nil, or_false] at ha
          rcases ha with e | e | e
          · rw [e]; exact ⟨x1, by omega, w0⟩
          · rw [e]; exact ⟨by omega, by omega, w1⟩
          · rw [e]; exact ⟨by omega, by omega, w2⟩)) (fp_f0 (by omega))
        have K1 := fb.2.2.2.2.1 K
        have q6 := (fb.2.2.2.1 6 (by decide) (by decide) (by decide) (by decide)).trans hN2
        have ci : ∀ a, a ≠ B p0 + 1 → a ≠ B p0 + 2 → a ≠ B p0 → ah_i (cNo hb (nI 0)) a = ah_i h a := fun a e1 e2 e3 => by rw [i_cNo]; exact fr_i F1 a (by simp only [List.mem_cons, List.not_mem_nil, or_false, true_or, or_true, not_true_eq_false] <;> omega)
        have q4 : ah_i (cNo hb (nI 0)) 174 p0 = nI hc := by rw [ci 174 (by omega) (by omega) (by omega)]; exact a3
        have c1 : ah_i (cNo hb (nI 0)) (B p0 + 1) = flp (ah_i h (B p0 + 1)) 0 n0 (nI 4) := by rw [i_cNo]; exact g2
        have c2 : ah_i (cNo hb (nI 0)) (B p0 + 2) = va_cpy (ah_i h T) (ah_i h (B p0 + 2)) (162 * ((nx + 9) % 10) + 2) 0 160 := by rw [i_cNo]; exact g3
        have cT : ah_i (cNo hb (nI 0)) T = ah_i h T := ci T hT.2.1 hT.2.2 hT.1
        have cf : ah_f (cNo hb (nI 0)) (B p0) = ah_f hb (B p0) := by unfold cNo; rw [f_sf_n _ _ _ _ _ (by omega)]
        have c0 : ∀ k, ah_f (cNo hb (nI 0)) 0 k = u1 (ah_f h 0) 19 (nI 0) k := fun k => by unfold cNo; rw [f_sf_s, fr_f F1 0 (by simp only [List.mem_cons, List.not_mem_nil, or_false, true_or, or_true, not_true_eq_false] <;> omega)]
        have c168 : ah_f (cNo hb (nI 0)) 168 = ah_f h 168 := by unfold cNo; rw [f_sf_n _ _ _ _ _ (by decide), fr_f F1 168 (by simp only [List.mem_cons, List.not_mem_nil, or_false, true_or, or_true, not_true_eq_false] <;> omega)]
        have cn_ : ah_n (cNo hb (nI 0)) = ah_n h := by rw [n_cNo]; exact F1.1.1
        have ck : ah_k (cNo hb (nI 0)) = ah_k h := by rw [k_cNo]; exact F1.1.2.1
        have cr_ : ah_r (cNo hb (nI 0)) = ah_r h := by rw [r_cNo]; exact F1.1.2.2.1
        generalize cNo hb (nI 0) = ha at fb K1 q6 ci q4 c1 c2 cT cf c0 c168 cn_ ck cr_ ⊢
        refine X12_undo_e (X12_undo_0 ?_)
        have F4 : fr [174] ha (ah_si ha 174 p0 (nI (hc - 1))) := fr_si (fr_refl _ ha) (by decide)
        have d4 : ah_i (ah_si ha 174 p0 (nI (hc - 1))) 174 = u1 (ah_i ha 174) p0 (nI (hc - 1)) := i_si_s _ _ _ _
        have f4 : fp p0 W ha (ah_si ha 174 p0 (nI (hc - 1))) := fp_174
        have hcz : ¬ hc = 0 := hz
        simp (disch := omega) only [o168 K1, isPC K1, isP_ q6 h24, hp, r168_7 K1, s174 K1, t174 K1, q4, hp24, hcz, forall_eq, forall_eq, Option.some.injEq, exists_eq_left', Option.getD_some, Value.int.injEq, Value.long.injEq, not_true_eq_false, not_false_eq_true, false_implies, true_implies, forall_const, implies_true, and_true, true_and, Classical.not_not, il_0, il_1, il_2, il_3, il_4, il_5, il_6, il_7, il_8, il_9, il_10, il_11, il_12, il_13, il_14, il_15, il_16, il_17, il_18, il_19, il_20, il_24, il_30, il_31, il_38, il_39, il_40, il_41, il_48, il_50, il_59, il_60, il_63, il_64, il_70, il_80, il_99, il_100, il_120, il_130, il_140, il_144, il_159, il_160, il_162, il_200, il_210, il_240, il_264, il_280, il_281, il_300, il_364, il_368, il_599, il_600, il_601, il_999, il_1610, il_1620, il_1800, il_4000, il_5000, il_7000, il_14500, il_58240, il_1000000, m1_e, nI_1, nI_add, pk_mul, pk_div, pk_sub, nI_clamp, nI_leI, nI_ltI, nI_eq, m1_lt, m1_le, m1_gt, m1_ge, m1_ne, m1_en, ix_nI, im_nI, and1, and3, sh2_, shr2, corner_nI, turned_nI]
        generalize ah_si ha 174 p0 (nI (hc - 1)) = he_ at F4 d4 f4 ⊢
        have K4 := sp_fr K1 F4
        rw [d4, u1_s, nI_add]
        have z0 : ah_i he_ 170 (24 + 10 * p0 + (hc - 1)) = nI n0 := by rw [fr_i F4 170 (by decide), ci 170 (by omega) (by omega) (by omega)]; exact s4_
        refine m_copySlot K4 sb hp36 (by omega) z0 s1_ (fun hd F5 i0 i1 i2 i3 => ⟨rfl, ?_⟩)
        have K5 := sp_fr K4 F5
        have v4 : ah_i hd 174 p0 = nI (hc - 1) := by rw [fr_i F5 174 (by decide), d4, u1_s]
        refine ⟨o168 K5, 174, r168_7 K5, (s174 K5 _).mpr ((ix_nI (by omega)).mpr hp24), weC K5 _, ?_⟩
        rw [weV, weH, v4]
        refine ⟨rfl, ?_⟩
        have base : ∀ a, 170 ≤ a → a ≤ 173 → ah_i he_ a = ah_i h a := fun a e1 e2 => by rw [fr_i F4 a (by simp only [List.mem_cons, List.not_mem_nil, or_false, true_or, or_true, not_true_eq_false] <;> omega), ci a (by omega) (by omega) (by omega)]
        have slp : ∀ s, s ≠ p0 → s < 368 → sl he_ hd s := fun s hs hs2 => ⟨by rw [i0, u1_n _ _ hs], by rw [i1, u1_n _ _ hs], fun c hc' => by rw [i2, pk_cpy_out (by omega)], fun e he => by rw [i3, pk_cpy_out (by omega)]⟩
        have slh : ∀ s, s ≠ p0 → s < 368 → sl h hd s := fun s hs hs2 => sl_trans (sl_of s (base 170 (by omega) (by omega)) (base 171 (by omega) (by omega)) (base 172 (by omega) (by omega)) (base 173 (by omega) (by omega))) (slp s hs hs2)
        have FF : fp p0 W h (mNo hd (nI 0)) := fp_trans fb (fp_trans f4 (fp_trans (fp_slots F5 (fun s s1 s2 _ => slp s s2 (by omega))) (fp_f168 (by omega))))
        have jh : ∀ a, a ≠ 170 → a ≠ 171 → a ≠ 172 → a ≠ 173 → a ≠ 174 → ah_i (mNo hd (nI 0)) a = ah_i ha a := fun a e0 e1 e2 e3 e4 => by rw [i_mNo, fr_i F5 a (by simp only [List.mem_cons, List.not_mem_nil, or_false, true_or, or_true, not_true_eq_false] <;> omega), fr_i F4 a (by simp only [List.mem_cons, List.not_mem_nil, or_false, true_or, or_true, not_true_eq_false] <;> omega)]
        have jm : ah_i (mNo hd (nI 0)) = ah_i hd := i_mNo _ _
        have jf : ah_f (mNo hd (nI 0)) (B p0) = ah_f hb (B p0) := by unfold mNo; rw [f_sf_n _ _ _ _ _ (by omega), fr_f F5 (B p0) (by simp only [List.mem_cons, List.not_mem_nil, or_false, true_or, or_true, not_true_eq_false] <;> omega), fr_f F4 (B p0) (by simp only [List.mem_cons, List.not_mem_nil, or_false, true_or, or_true, not_true_eq_false] <;> omega), cf]
        have k0 : ∀ k, ah_f (mNo hd (nI 0)) 0 k = u1 (ah_f h 0) 19 (nI 0) k := fun k => by unfold mNo; rw [f_sf_n _ _ _ _ _ (by decide), fr_f F5 0 (by decide), fr_f F4 0 (by decide)]; exact c0 k
        have k1 : ∀ k, ah_f (mNo hd (nI 0)) 168 k = u1 (ah_f h 168) 0 (nI 0) k := fun k => by unfold mNo; rw [f_sf_s, fr_f F5 168 (by decide), fr_f F4 168 (by decide), c168]
        have nn : ah_n (mNo hd (nI 0)) = ah_n h := by rw [n_mNo, F5.1.1, F4.1.1]; exact cn_
        have kk : ah_k (mNo hd (nI 0)) = ah_k h := by rw [k_mNo, F5.1.2.1, F4.1.2.1]; exact ck
        have rr : ah_r (mNo hd (nI 0)) = ah_r h := by rw [r_mNo, F5.1.2.2.1, F4.1.2.2.1]; exact cr_
        generalize mNo hd (nI 0) = hq_ at FF jh jm jf k0 k1 nn kk rr ⊢
        have slq : ∀ s, s ≠ p0 → s < 368 → sl h hq_ s := fun s e1 e2 => by
          have := slh s e1 e2
          unfold sl at this ⊢
          rw [jm]
          exact this
        refine D_pic x hp0 FF (fun _ _ => rfl) (FC_of x.1 (by rw [k0, k1, u1_s, u1_s]) (by rw [k0, u1_n _ _ (by decide)]) (by rw [k0, u1_n _ _ (by decide)]) (by rw [k1, u1_n _ _ (by decide)]) (by rw [k1, u1_n _ _ (by decide)]) (by rw [jh 167 (by decide) (by decide) (by decide) (by decide) (by decide), ci 167 (by omega) (by omega) (by omega)]) (by rw [jh 169 (by decide) (by decide) (by decide) (by decide) (by decide), ci 169 (by omega) (by omega) (by omega)])) ⟨x1, by omega, pt_q pt1 nn kk rr, ⟨w0, w1, w2⟩, ?_, ?_⟩ (by omega)
        · refine ⟨n0, l0, ?_, ?_, s2_, ?_, ?_, ?_, ?_, ?_, ?_⟩
          · rw [jf, g1, u1_n _ _ (by decide), u1_s]
          · rw [jm, i0, u1_s]
          · rw [jf, g1, u1_s]
          · rw [jm, i1, u1_s, base 171 (by omega) (by omega)]; exact s6_
          · rw [jh (B p0 + 1) (by omega) (by omega) (by omega) (by omega) (by omega), jh (B p0 + 2) (by omega) (by omega) (by omega) (by omega) (by omega), c1, c2]
            refine ⟨s1_, fun c hc' => Or.inr ⟨4, by omega, if_pos (by omega)⟩, fun e he => ?_⟩
            obtain ⟨v, v1, v2, v3⟩ := s8_ e he
            refine Or.inr ⟨v, v1, ?_⟩
            rw [pk_cpy_in (by omega) (by omega), Nat.sub_zero]
            exact v2
          · rw [jh (B p0 + 1) (by omega) (by omega) (by omega) (by omega) (by omega), c1, jm, i2]
            intro c hc'
            rw [pk_cpy_in (by omega) (by omega), show 40 * p0 + c - 40 * p0 = c by omega, base 172 (by omega) (by omega), s7_ c hc']
            exact (if_pos (by omega)).symm
          · rw [jh (B p0 + 2) (by omega) (by omega) (by omega) (by omega) (by omega), c2, jm, i3]
            intro e he
            obtain ⟨v, v1, v2, v3⟩ := s8_ e he
            rw [pk_cpy_in (by omega) (by omega), show 160 * p0 + e - 160 * p0 = e by omega, base 173 (by omega) (by omega), v3, pk_cpy_in (by omega) (by omega), Nat.sub_zero, v2]
          · rw [jh (B p0 + 1) (by omega) (by omega) (by omega) (by omega) (by omega), c1]
            intro c i hc' hi hl'
            have := hl' 4 (by omega) (if_pos (by omega))
            omega
        · refine ⟨hc - 1, (nx + 9) % 10, by omega, by omega, ?_, ?_, ?_, Or.inr ⟨T, by rw [rr]; exact t1, t2, by omega, ?_, t5, fun k hk => ?_⟩⟩
          · rw [jm]; exact v4
          · rw [jf]; exact v5
          · rw [jf, g1, u1_n _ _ (by decide), u1_n _ _ (by decide), u1_n _ _ (by decide), u1_s]
          · unfold ah_x at t4 ⊢
            rw [nn, kk]
            exact t4
          · have h1 := t6 k (by omega)
            rw [show (nx + 10 - hc + k) % 10 = ((nx + 9) % 10 + 10 - (hc - 1) + k) % 10 by omega] at h1
            exact he_eq h1 (by rw [jh T (by omega) (by omega) (by omega) (by omega) (by omega), cT]) (slq _ (by omega) (by omega))
  · simp only [o0 K, hasPC K, hasP hN h24, hp, forall_eq, Option.some.injEq, exists_eq_left', Option.getD_some, Value.int.injEq, Value.long.injEq, not_true_eq_false, not_false_eq_true, false_implies, true_implies, forall_const, implies_true, and_true, true_and, Classical.not_not, il_0, il_1, il_2, il_3, il_4, il_5, il_6, il_7, il_8, il_9, il_10, il_11, il_12, il_13, il_14, il_15, il_16, il_17, il_18, il_19, il_20, il_24, il_30, il_31, il_38, il_39, il_40, il_41, il_48, il_50, il_59, il_60, il_63, il_64, il_70, il_80, il_99, il_100, il_120, il_130, il_140, il_144, il_159, il_160, il_162, il_200, il_210, il_240, il_264, il_280, il_281, il_300, il_364, il_368, il_599, il_600, il_601, il_999, il_1610, il_1620, il_1800, il_4000, il_5000, il_7000, il_14500, il_58240, il_1000000]
    refine c_no K 2 (by decide) ⟨_, rfl, ?_⟩
    have Kc : sp (cNo h (-nI 2)) := (R1_cNo x.2 (fcs_refl h) (-nI 2)).1
    have q6 : ah_f (cNo h (-nI 2)) 168 6 = nI N := by unfold cNo; rw [f_sf_n _ _ _ _ _ (by decide)]; exact hN2
    refine X12_undo_e (X12_undo_0 ?_)
    simp only [o168 Kc, isPC Kc, isP_ q6 h24, hp, noC Kc, noV, noH, forall_eq, Option.some.injEq, exists_eq_left', Option.getD_some, Value.int.injEq, Value.long.injEq, not_true_eq_false, not_false_eq_true, false_implies, true_implies, forall_const, implies_true, and_true, true_and, Classical.not_not, il_0, il_1, il_2, il_3, il_4, il_5, il_6, il_7, il_8, il_9, il_10, il_11, il_12, il_13, il_14, il_15, il_16, il_17, il_18, il_19, il_20, il_24, il_30, il_31, il_38, il_39, il_40, il_41, il_48, il_50, il_59, il_60, il_63, il_64, il_70, il_80, il_99, il_100, il_120, il_130, il_140, il_144, il_159, il_160, il_162, il_200, il_210, il_240, il_264, il_280, il_281, il_300, il_364, il_368, il_599, il_600, il_601, il_999, il_1610, il_1620, il_1800, il_4000, il_5000, il_7000, il_14500, il_58240, il_1000000]
    exact D_no x (fcs_refl h) _ (fms_refl _)
end UNDO
