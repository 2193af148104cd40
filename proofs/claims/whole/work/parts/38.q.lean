/-! Calls that only ask of one picture: open, sign, pieceOf, told, linking. -/
/-- both sides of a call answer alike and leave the relation -/
def ST (yc : MethodName) (mc : MM) (ym : MethodName) (mm : MM) (dc dm : Nat) (args : List Value) (h : AH) (bc bs : Nat) (W : Nat → Nat) (S : Nat → Int32) (len : Nat) : Prop :=
  ex_S yc mc dc (.ref 0 :: args) h bc bs (fun r h1 => ∃ v : Int32, r = some (.int v) ∧ ex_S ym mm dm (.ref 168 :: args) h1 0 0 (fun r' h2 => r' = some (.int v) ∧ DONE h h2 W S len))
def STL (yc : MethodName) (mc : MM) (ym : MethodName) (mm : MM) (dc dm : Nat) (args : List Value) (h : AH) (bc bs : Nat) (W : Nat → Nat) (S : Nat → Int32) (len : Nat) : Prop :=
  ex_S yc mc dc (.ref 0 :: args) h bc bs (fun r h1 => ∃ v : Int64, r = some (.long v) ∧ ex_S ym mm dm (.ref 168 :: args) h1 0 0 (fun r' h2 => r' = some (.long v) ∧ DONE h h2 W S len))
section Q1
variable {h h0 h1 hx hy : AH} {d bc bs : Nat} {Q : Option Value → AH → Prop} {W : Nat → Nat} {N : Nat} {B : Nat → Nat} {S : Nat → Int32} {len : Nat}
theorem kc_no (F : fcs h hx) (v : Int32) (a : Nat) (ha : 216 ≤ a) : eqc h (cNo hx v) a := by
  have e := F.2.1 a (cscr_no ha)
  refine ⟨e.1, ?_, e.2.2.1, e.2.2.2.1, e.2.2.2.2.1, e.2.2.2.2.2⟩
  unfold cNo
  rw [f_sf_n _ _ _ _ _ (by omega)]
  exact e.2.1
theorem kc_f (F : fcs h hx) (f : Nat) (a : Nat) (ha : 216 ≤ a) : eqc h (cF hx f) a := by
  have e := F.2.1 a (cscr_no ha)
  refine ⟨e.1, ?_, ?_, e.2.2.2.1, e.2.2.2.2.1, e.2.2.2.2.2⟩
  · unfold cF
    rw [f_si, f_sf_n _ _ _ _ _ (by omega)]
    exact e.2.1
  · unfold cF
    rw [i_si_n _ _ _ _ _ (by omega), i_sf]
    exact e.2.2.1
theorem R1_cNo (x : R1 h W N B S len) (F : fcs h hx) (v : Int32) : R1 (cNo hx v) W N B S len := R1_f0 (R1_fcs x F) 19 v (by omega)
theorem R1_cF (x : R1 h W N B S len) (F : fcs h hx) (f : Nat) : R1 (cF hx f) W N B S len := R1_i (R1_f0 (R1_fcs x F) 19 _ (by omega)) 167 _ _ (by omega)
theorem fms_refl (h : AH) : fms h h := fms_fr (fr_refl [] h) (fun _ q => absurd q List.not_mem_nil) (fun _ _ => rfl) (fun s _ => sl_refl h s)
/-- refusal(p) of a picture that there is; told of the pictures as they were in h0 -/
theorem m_refusal (x : R1 h W N B S len) (E : ∀ a, 216 ≤ a → eqc h0 h a) {p n r : Nat} {pl : Int32} (hp : p < N) (hn : ah_f h0 (B p) 2 = nI n) (h40 : n ≤ 40) (O : opn n (ah_i h0 (B p + 1)) (ah_i h0 (B p + 2)) r pl)
    (k0 : r = 0 → ∀ h', fms h h' → fr [168, 176, 177, 178, 179, 180] h h' → ah_i h' 170 p = nI n → (∀ e, e < 4 * n → ah_i h' 176 e = nI (mt n (AN (ah_i h0 (B p + 2))) e)) → Q (some (.int (nI 0))) h')
    (k1 : r ≠ 0 → ∀ h', fms h h' → Q (some (.int (-nI 13))) (mF h' 3)) : ex_S yX12_refusal mX12_refusal (d + 4) [.ref 168, .int (nI p)] h bc bs Q := by
  have K := x.1
  obtain ⟨h24, hN, hN2, hP⟩ := x.2.2.2.1
  obtain ⟨hq, hX⟩ := hP p hp
  have hip : ix (nI p) N := (ix_nI (by omega)).mpr hp
  obtain ⟨x1, -, -, -, ⟨n', l, y1, y2, -⟩, -⟩ := hX
  refine X12_refusal_e (X12_refusal_0 ?_)
  simp only [o168 K, isPC K, isP_ hN2 h24, hip, not_true_eq_false, not_false_eq_true, false_implies, true_implies, forall_const, implies_true, and_true, true_and, Classical.not_not, il_0, il_1, il_2, il_3, il_4, il_5, il_6, il_7, il_8, il_9, il_10, il_11, il_12, il_13, il_14, il_15, il_16, il_17, il_18, il_19, il_20, il_24, il_30, il_31, il_38, il_39, il_40, il_41, il_48, il_50, il_59, il_60, il_63, il_64, il_70, il_80, il_99, il_100, il_120, il_130, il_140, il_144, il_159, il_160, il_162, il_200, il_210, il_240, il_264, il_280, il_281, il_300, il_364, il_368, il_599, il_600, il_601, il_999, il_1610, il_1620, il_1800, il_4000, il_5000, il_7000, il_14500, il_58240, il_1000000]
  refine m_open x hp (fun h' n2 r2 pl2 a1 a0 a2 a3 a4 a5 a6 => ⟨_, rfl, ?_⟩)
  have e0 := E (B p) x1
  have e1 := E (B p + 1) (by omega)
  have e2 := E (B p + 2) (by omega)
  rw [e0.2.1] at a1 y1
  rw [e1.2.2.1, e2.2.2.1] at a4
  rw [e2.2.2.1] at a5
  have hn' : n2 = n := by
    have w := a1.symm.trans hn
    rw [nI_eq (by omega) (by omega)] at w
    exact w
  subst hn'
  have hr := (opn_u O a4).1
  subst hr
  have hrl := opn_le O
  have K' := sp_fr K a6
  by_cases z : r = 0
  · subst z
    refine ⟨fun _ => k0 rfl h' a2 a6 ?_ (a5 rfl), fun w => absurd ((nI_leI (a := 0) (b := 0) (by omega) (by omega)).mpr (Nat.le_refl 0)) w⟩
    rw [fr_i a6 170 (by decide), y2]
    exact y1.symm.trans hn
  · refine ⟨fun w => ?_, fun _ => ⟨o168 K', meC K' (f := 3) (by decide), fun h9 e9 => ?_⟩⟩
    · have w' : nI r ≤ nI 0 := w
      rw [nI_leI (by omega) (by omega)] at w'
      omega
    · have e10 : h9 = mF h' 3 := e9.trans (meH K' (f := 3) (by decide))
      rw [e10]
      have := k1 z h' a2
      exact this
/-- scratch alone -/
theorem fms_sc {L : List Nat} {h h' : AH} (F : fr L h h') (s : (∀ a, a ∈ L → a ∈ Mscr) ∧ 168 ∉ L ∧ 170 ∉ L ∧ 171 ∉ L ∧ 172 ∉ L ∧ 173 ∉ L) : fms h h' := fms_fr F s.1 (fun k _ => by rw [fr_f F 168 s.2.1]) (fun t _ => sl_of t (fr_i F 170 s.2.2.1) (fr_i F 171 s.2.2.2.1) (fr_i F 172 s.2.2.2.2.1) (fr_i F 173 s.2.2.2.2.2))
theorem m_refusal_no (x : R1 h W N B S len) {p : Int32} (hp : ¬ ix p N) (k : Q (some (.int (-nI 2))) (mNo h (-nI 2))) : ex_S yX12_refusal mX12_refusal (d + 4) [.ref 168, .int p] h bc bs Q := by
  have K := x.1
  obtain ⟨h24, hN, hN2, hP⟩ := x.2.2.2.1
  refine X12_refusal_e (X12_refusal_0 ?_)
  simp only [o168 K, isPC K, isP_ hN2 h24, hp, not_true_eq_false, not_false_eq_true, false_implies, true_implies, forall_const, implies_true, and_true, true_and, Classical.not_not, il_0, il_1, il_2, il_3, il_4, il_5, il_6, il_7, il_8, il_9, il_10, il_11, il_12, il_13, il_14, il_15, il_16, il_17, il_18, il_19, il_20, il_24, il_30, il_31, il_38, il_39, il_40, il_41, il_48, il_50, il_59, il_60, il_63, il_64, il_70, il_80, il_99, il_100, il_120, il_130, il_140, il_144, il_159, il_160, il_162, il_200, il_210, il_240, il_264, il_280, il_281, il_300, il_364, il_368, il_599, il_600, il_601, il_999, il_1610, il_1620, il_1800, il_4000, il_5000, il_7000, il_14500, il_58240, il_1000000, noC K, noH, noV, forall_eq, Option.some.injEq, exists_eq_left', Option.getD_some, Value.int.injEq, Value.long.injEq]
  exact k
end Q1
section Q2
variable {h : AH} {d bc bs : Nat} {W : Nat → Nat} {N : Nat} {B : Nat → Nat} {S : Nat → Int32} {len : Nat}
theorem st_sign (x : R0 h W N B S len) (p c : Int32) : ST yX11_sign mX11_sign yX12_sign mX12_sign (d + 5) (d + 5) [.int p, .int c] h bc bs W S len := by
  have K := x.2.1
  obtain ⟨h24, hN, hN2, hP⟩ := x.2.2.2.2.1
  refine X11_sign_e (X11_sign_0 ?_)
  by_cases hp : ix p N
  · obtain ⟨p0, hp0, rfl⟩ := ix_of hp (by omega)
    simp only [o0 K, hasPC K, hasP hN h24, hp, r0_4 K, forall_eq, Option.some.injEq, exists_eq_left', Option.getD_some, Value.int.injEq, Value.long.injEq, not_true_eq_false, not_false_eq_true, false_implies, true_implies, forall_const, implies_true, and_true, true_and, Classical.not_not, il_0, il_1, il_2, il_3, il_4, il_5, il_6, il_7, il_8, il_9, il_10, il_11, il_12, il_13, il_14, il_15, il_16, il_17, il_18, il_19, il_20, il_24, il_30, il_31, il_38, il_39, il_40, il_41, il_48, il_50, il_59, il_60, il_63, il_64, il_70, il_80, il_99, il_100, il_120, il_130, il_140, il_144, il_159, il_160, il_162, il_200, il_210, il_240, il_264, il_280, il_281, il_300, il_364, il_368, il_599, il_600, il_601, il_999, il_1610, il_1620, il_1800, il_4000, il_5000, il_7000, il_14500, il_58240, il_1000000]
    refine c_isWhole x.2 hp0 (Or.inl rfl) (fun h1 n r pl hn h40 Lp => ⟨_, rfl, ?_⟩)
    obtain ⟨F, l1, l2, l3, l4, O, LFh⟩ := Lp
    have Fc := fcs_fr F lkc7
    have K1 := sp_fr K F
    have x1 := (hP p0 hp0).2.1
    by_cases r0 : r = 0
    · subst r0
      have LFh := LFh rfl
      have hq1 : ah_q h1 1 p0 = some (B p0) := by rw [F.1.2.2.2]; exact (hP p0 hp0).1
      have pt1 : pt h1 (B p0) := pt_fr (hP p0 hp0).2.2.2.1 F
      have hn1 : ah_f h1 (B p0) 2 = nI n := by rw [fr_f F (B p0) (lkc_no (by omega))]; exact hn
      have hd := (opn_0 O).2.2.1
      have P := hd.mt
      rw [if_pos rfl]
      have n10 : ¬ (nI 1 : Int32) = nI 0 := by decide
      have i24 : ix (nI p0) 24 := (ix_nI (by omega)).mpr (by omega)
      simp only [n10, not_true_eq_false, not_false_eq_true, false_implies, true_implies, forall_const, implies_true, and_true, true_and, Classical.not_not, il_0, il_1, il_2, il_3, il_4, il_5, il_6, il_7, il_8, il_9, il_10, il_11, il_12, il_13, il_14, il_15, il_16, il_17, il_18, il_19, il_20, il_24, il_30, il_31, il_38, il_39, il_40, il_41, il_48, il_50, il_59, il_60, il_63, il_64, il_70, il_80, il_99, il_100, il_120, il_130, il_140, il_144, il_159, il_160, il_162, il_200, il_210, il_240, il_264, il_280, il_281, il_300, il_364, il_368, il_599, il_600, il_601, il_999, il_1610, il_1620, il_1800, il_4000, il_5000, il_7000, il_14500, il_58240, il_1000000, o0 K1, r0_0 K1, s1 K1, i24, nI_clamp (show p0 < 2 ^ 31 by omega), hq1, pt_o pt1, r0_4 K1, forall_eq, Option.some.injEq, exists_eq_left', Option.getD_some, Value.int.injEq, Value.long.injEq]
      refine ⟨⟨fun _ => trivial, fun _ => ⟨pt_o pt1, trivial⟩⟩, ?_⟩
      have hc : X7_hasCrossing_V (B p0) c h1 = nI 0 ↔ ¬ ix c n := by
        unfold X7_hasCrossing_V
        rw [hn1]
        exact ask_ix (by omega)
      simp only [hc]
      by_cases hi : ix c n
      · obtain ⟨c0, hc0, rfl⟩ := ix_of hi (by omega)
        simp only [hi, not_true_eq_false, not_false_eq_true, false_implies, true_implies, forall_const, implies_true, and_true, true_and, Classical.not_not]
        refine ⟨o7 K1, 14, r7_6 K1, (s14 K1 _).mpr ((ix_nI (by omega)).mpr (by omega)), grC K1 _, ?_⟩
        rw [nI_clamp (by omega), LFh.2.2.2.2.2.2.2.1 c0 hc0]
        rw [grV, grH]
        refine X12_sign_e (X12_sign_0 ⟨o168 K1, m_refusal (R1_cNo x.2 Fc (nI 0)) (kc_no Fc (nI 0)) hp0 hn h40 O (fun _ h3 G3 G3' z3 g3 => ⟨_, rfl, ?_⟩) (fun w => absurd rfl w)⟩)
        have K3 := G3.2.2.1 (show sp (cNo h1 (nI 0)) from K1)
        have ic : ix (nI c0) n := (ix_nI (by omega)).mpr hc0
        have hin : X12_in_V (Int32.toInt64 (nI c0)) 0 (Int32.toInt64 (nI n - nI 1)) h3 = nI 0 ↔ ¬ ix (nI c0) n := in_ix (by omega) h3
        have n00 : (nI 0 : Int32) ≤ nI 0 := by decide
        simp only [il_0, il_1, il_2, il_3, il_4, il_5, il_6, il_7, il_8, il_9, il_10, il_11, il_12, il_13, il_14, il_15, il_16, il_17, il_18, il_19, il_20, il_24, il_30, il_31, il_38, il_39, il_40, il_41, il_48, il_50, il_59, il_60, il_63, il_64, il_70, il_80, il_99, il_100, il_120, il_130, il_140, il_144, il_159, il_160, il_162, il_200, il_210, il_240, il_264, il_280, il_281, il_300, il_364, il_368, il_599, il_600, il_601, il_999, il_1610, il_1620, il_1800, il_4000, il_5000, il_7000, il_14500, il_58240, il_1000000, n00, not_true_eq_false, not_false_eq_true, false_implies, true_implies, forall_const, implies_true, and_true, true_and, Classical.not_not, o168 K3, r168_2 K3, s170 K3, ix_nI (show p0 < 2 ^ 31 by omega), nI_clamp (show p0 < 2 ^ 31 by omega), z3, forall_eq, Option.some.injEq, exists_eq_left', Option.getD_some, Value.int.injEq, Value.long.injEq] at hin ⊢
        refine ⟨by omega, ?_, ?_⟩
        · intro _
          refine m_piecesOf K3 (by omega) z3 h40 g3 P (fun h4 F4 g4 => ⟨_, rfl, o168 (sp_fr K3 F4), m_signAt (sp_fr K3 F4) P h40 g4 hc0 ⟨_, rfl, o168 (sp_fr K3 F4), weC (sp_fr K3 F4) _, ?_⟩⟩)
          exact ⟨rfl, D_no x Fc (nI 0) (fms_trans G3 (fms_sc F4 (by decide)))⟩
        · intro z
          exact absurd ic (hin.mp z)
      · simp only [hi, not_true_eq_false, not_false_eq_true, false_implies, true_implies, forall_const, implies_true, and_true, true_and, Classical.not_not]
        refine c_f K1 2 (by decide) (by decide) ⟨_, rfl, ?_⟩
        refine X12_sign_e (X12_sign_0 ⟨o168 K1, m_refusal (R1_cF x.2 Fc 2) (kc_f Fc 2) hp0 hn h40 O (fun _ h3 G3 G3' z3 g3 => ⟨_, rfl, ?_⟩) (fun w => absurd rfl w)⟩)
        have K3 := G3.2.2.1 (show sp (cF h1 2) from K1)
        have n00 : (nI 0 : Int32) ≤ nI 0 := by decide
        simp only [il_0, il_1, il_2, il_3, il_4, il_5, il_6, il_7, il_8, il_9, il_10, il_11, il_12, il_13, il_14, il_15, il_16, il_17, il_18, il_19, il_20, il_24, il_30, il_31, il_38, il_39, il_40, il_41, il_48, il_50, il_59, il_60, il_63, il_64, il_70, il_80, il_99, il_100, il_120, il_130, il_140, il_144, il_159, il_160, il_162, il_200, il_210, il_240, il_264, il_280, il_281, il_300, il_364, il_368, il_599, il_600, il_601, il_999, il_1610, il_1620, il_1800, il_4000, il_5000, il_7000, il_14500, il_58240, il_1000000, n00, not_true_eq_false, not_false_eq_true, false_implies, true_implies, forall_const, implies_true, and_true, true_and, Classical.not_not, o168 K3, r168_2 K3, s170 K3, ix_nI (show p0 < 2 ^ 31 by omega), nI_clamp (show p0 < 2 ^ 31 by omega), z3, forall_eq, Option.some.injEq, exists_eq_left', Option.getD_some, Value.int.injEq, Value.long.injEq, inx (show n < 2 ^ 31 by omega), hi, meC K3 (show 2 ≤ 9 by decide), meH K3 (show 2 ≤ 9 by decide), meV]
        exact ⟨by omega, D_f x Fc (by decide) (by decide) G3⟩
    · rw [if_neg r0]
      simp only [not_true_eq_false, not_false_eq_true, false_implies, true_implies, forall_const, implies_true, and_true, true_and, Classical.not_not, o0 K1]
      refine c_f K1 3 (by decide) (by decide) ⟨_, rfl, ?_⟩
      refine X12_sign_e (X12_sign_0 ⟨o168 K1, m_refusal (R1_cF x.2 Fc 3) (kc_f Fc 3) hp0 hn h40 O (fun w => absurd w r0) (fun _ h3 G3 => ⟨_, rfl, ?_⟩)⟩)
      have n13 : ¬ (nI 0 : Int32) ≤ -nI 13 := by decide
      simp only [il_0, il_1, il_2, il_3, il_4, il_5, il_6, il_7, il_8, il_9, il_10, il_11, il_12, il_13, il_14, il_15, il_16, il_17, il_18, il_19, il_20, il_24, il_30, il_31, il_38, il_39, il_40, il_41, il_48, il_50, il_59, il_60, il_63, il_64, il_70, il_80, il_99, il_100, il_120, il_130, il_140, il_144, il_159, il_160, il_162, il_200, il_210, il_240, il_264, il_280, il_281, il_300, il_364, il_368, il_599, il_600, il_601, il_999, il_1610, il_1620, il_1800, il_4000, il_5000, il_7000, il_14500, il_58240, il_1000000, n13, not_true_eq_false, not_false_eq_true, false_implies, true_implies, forall_const, implies_true, and_true, true_and, Classical.not_not]
      exact D_f x Fc (by decide) (by decide) G3
  · simp only [o0 K, hasPC K, hasP hN h24, hp, forall_eq, Option.some.injEq, exists_eq_left', Option.getD_some, Value.int.injEq, Value.long.injEq, not_true_eq_false, not_false_eq_true, false_implies, true_implies, forall_const, implies_true, and_true, true_and, Classical.not_not, il_0, il_1, il_2, il_3, il_4, il_5, il_6, il_7, il_8, il_9, il_10, il_11, il_12, il_13, il_14, il_15, il_16, il_17, il_18, il_19, il_20, il_24, il_30, il_31, il_38, il_39, il_40, il_41, il_48, il_50, il_59, il_60, il_63, il_64, il_70, il_80, il_99, il_100, il_120, il_130, il_140, il_144, il_159, il_160, il_162, il_200, il_210, il_240, il_264, il_280, il_281, il_300, il_364, il_368, il_599, il_600, il_601, il_999, il_1610, il_1620, il_1800, il_4000, il_5000, il_7000, il_14500, il_58240, il_1000000]
    refine c_no K 2 (by decide) ⟨_, rfl, ?_⟩
    refine X12_sign_e (X12_sign_0 ⟨o168 K, m_refusal_no (R1_cNo x.2 (fcs_refl h) (-nI 2)) hp ⟨_, rfl, ?_⟩⟩)
    have n2 : ¬ (nI 0 : Int32) ≤ -nI 2 := by decide
    simp only [il_0, il_1, il_2, il_3, il_4, il_5, il_6, il_7, il_8, il_9, il_10, il_11, il_12, il_13, il_14, il_15, il_16, il_17, il_18, il_19, il_20, il_24, il_30, il_31, il_38, il_39, il_40, il_41, il_48, il_50, il_59, il_60, il_63, il_64, il_70, il_80, il_99, il_100, il_120, il_130, il_140, il_144, il_159, il_160, il_162, il_200, il_210, il_240, il_264, il_280, il_281, il_300, il_364, il_368, il_599, il_600, il_601, il_999, il_1610, il_1620, il_1800, il_4000, il_5000, il_7000, il_14500, il_58240, il_1000000, n2, not_true_eq_false, not_false_eq_true, false_implies, true_implies, forall_const, implies_true, and_true, true_and, Classical.not_not]
    exact D_no x (fcs_refl h) _ (fms_refl _)
theorem st_pieceOf (x : R0 h W N B S len) (p c : Int32) : ST yX11_pieceOf mX11_pieceOf yX12_pieceOf mX12_pieceOf (d + 5) (d + 5) [.int p, .int c] h bc bs W S len := by
  have K := x.2.1
  obtain ⟨h24, hN, hN2, hP⟩ := x.2.2.2.2.1
  refine X11_pieceOf_e (X11_pieceOf_0 ?_)
  by_cases hp : ix p N
  · obtain ⟨p0, hp0, rfl⟩ := ix_of hp (by omega)
    simp only [o0 K, hasPC K, hasP hN h24, hp, r0_4 K, forall_eq, Option.some.injEq, exists_eq_left', Option.getD_some, Value.int.injEq, Value.long.injEq, not_true_eq_false, not_false_eq_true, false_implies, true_implies, forall_const, implies_true, and_true, true_and, Classical.not_not, il_0, il_1, il_2, il_3, il_4, il_5, il_6, il_7, il_8, il_9, il_10, il_11, il_12, il_13, il_14, il_15, il_16, il_17, il_18, il_19, il_20, il_24, il_30, il_31, il_38, il_39, il_40, il_41, il_48, il_50, il_59, il_60, il_63, il_64, il_70, il_80, il_99, il_100, il_120, il_130, il_140, il_144, il_159, il_160, il_162, il_200, il_210, il_240, il_264, il_280, il_281, il_300, il_364, il_368, il_599, il_600, il_601, il_999, il_1610, il_1620, il_1800, il_4000, il_5000, il_7000, il_14500, il_58240, il_1000000]
    refine c_isWhole x.2 hp0 (Or.inl rfl) (fun h1 n r pl hn h40 Lp => ⟨_, rfl, ?_⟩)
    obtain ⟨F, l1, l2, l3, l4, O, LFh⟩ := Lp
    have Fc := fcs_fr F lkc7
    have K1 := sp_fr K F
    have x1 := (hP p0 hp0).2.1
    by_cases r0 : r = 0
    · subst r0
      have LFh := LFh rfl
      have hd := (opn_0 O).2.2.1
      have P := hd.mt
      rw [if_pos rfl]
      have n10 : ¬ (nI 1 : Int32) = nI 0 := by decide
      have he : X4_hasEnd_V 7 c h1 = nI 0 ↔ ¬ ix c (4 * n) := by
        unfold X4_hasEnd_V
        rw [l1, il_4, pk_mul]
        exact ask_ix (by omega)
      simp only [n10, not_true_eq_false, not_false_eq_true, false_implies, true_implies, forall_const, implies_true, and_true, true_and, Classical.not_not, il_0, il_1, il_2, il_3, il_4, il_5, il_6, il_7, il_8, il_9, il_10, il_11, il_12, il_13, il_14, il_15, il_16, il_17, il_18, il_19, il_20, il_24, il_30, il_31, il_38, il_39, il_40, il_41, il_48, il_50, il_59, il_60, il_63, il_64, il_70, il_80, il_99, il_100, il_120, il_130, il_140, il_144, il_159, il_160, il_162, il_200, il_210, il_240, il_264, il_280, il_281, il_300, il_364, il_368, il_599, il_600, il_601, il_999, il_1610, il_1620, il_1800, il_4000, il_5000, il_7000, il_14500, il_58240, il_1000000, o0 K1, r0_4 K1, o7 K1, forall_eq, Option.some.injEq, exists_eq_left', Option.getD_some, Value.int.injEq, Value.long.injEq, he]
      refine ⟨⟨fun _ => trivial, fun _ => ⟨o7 K1, trivial⟩⟩, ?_⟩
      by_cases hi : ix c (4 * n)
      · obtain ⟨c0, hc0, rfl⟩ := ix_of hi (by omega)
        simp only [hi, not_true_eq_false, not_false_eq_true, false_implies, true_implies, forall_const, implies_true, and_true, true_and, Classical.not_not]
        refine ⟨11, r7_3 K1, (s11 K1 _).mpr ((ix_nI (by omega)).mpr (by omega)), grC K1 _, ?_⟩
        obtain ⟨y, hy, py, oy⟩ := pmn_ex P hc0
        rw [nI_clamp (by omega), (LFh.2.2.2.2.2.1 c0 hc0).1 y (by omega) py oy, grV, grH]
        refine X12_pieceOf_e (X12_pieceOf_0 ⟨o168 K1, m_refusal (R1_cNo x.2 Fc (nI 0)) (kc_no Fc (nI 0)) hp0 hn h40 O (fun _ h3 G3 G3' z3 g3 => ⟨_, rfl, ?_⟩) (fun w => absurd rfl w)⟩)
        have K3 := G3.2.2.1 (show sp (cNo h1 (nI 0)) from K1)
        have n00 : (nI 0 : Int32) ≤ nI 0 := by decide
        simp only [il_0, il_1, il_2, il_3, il_4, il_5, il_6, il_7, il_8, il_9, il_10, il_11, il_12, il_13, il_14, il_15, il_16, il_17, il_18, il_19, il_20, il_24, il_30, il_31, il_38, il_39, il_40, il_41, il_48, il_50, il_59, il_60, il_63, il_64, il_70, il_80, il_99, il_100, il_120, il_130, il_140, il_144, il_159, il_160, il_162, il_200, il_210, il_240, il_264, il_280, il_281, il_300, il_364, il_368, il_599, il_600, il_601, il_999, il_1610, il_1620, il_1800, il_4000, il_5000, il_7000, il_14500, il_58240, il_1000000, n00, not_true_eq_false, not_false_eq_true, false_implies, true_implies, forall_const, implies_true, and_true, true_and, Classical.not_not, o168 K3, r168_2 K3, s170 K3, ix_nI (show p0 < 2 ^ 31 by omega), nI_clamp (show p0 < 2 ^ 31 by omega), z3, forall_eq, Option.some.injEq, exists_eq_left', Option.getD_some, Value.int.injEq, Value.long.injEq, pk_mul, inx (show 4 * n < 2 ^ 31 by omega), hi]
        refine ⟨by omega, m_piecesOf K3 (by omega) z3 h40 g3 P (fun h4 F4 g4 => ⟨_, rfl, o168 (sp_fr K3 F4), 181, r168_16 (sp_fr K3 F4), (s181 (sp_fr K3 F4) _).mpr ((ix_nI (by omega)).mpr (by omega)), weC (sp_fr K3 F4) _, ?_⟩)⟩
        rw [nI_clamp (by omega), (g4 c0 hc0).1 y (by omega) py oy]
        exact ⟨rfl, D_no x Fc (nI 0) (fms_trans G3 (fms_sc F4 (by decide)))⟩
      · simp only [hi, not_true_eq_false, not_false_eq_true, false_implies, true_implies, forall_const, implies_true, and_true, true_and, Classical.not_not]
        refine c_f K1 2 (by decide) (by decide) ⟨_, rfl, ?_⟩
        refine X12_pieceOf_e (X12_pieceOf_0 ⟨o168 K1, m_refusal (R1_cF x.2 Fc 2) (kc_f Fc 2) hp0 hn h40 O (fun _ h3 G3 G3' z3 g3 => ⟨_, rfl, ?_⟩) (fun w => absurd rfl w)⟩)
        have K3 := G3.2.2.1 (show sp (cF h1 2) from K1)
        have n00 : (nI 0 : Int32) ≤ nI 0 := by decide
        simp only [il_0, il_1, il_2, il_3, il_4, il_5, il_6, il_7, il_8, il_9, il_10, il_11, il_12, il_13, il_14, il_15, il_16, il_17, il_18, il_19, il_20, il_24, il_30, il_31, il_38, il_39, il_40, il_41, il_48, il_50, il_59, il_60, il_63, il_64, il_70, il_80, il_99, il_100, il_120, il_130, il_140, il_144, il_159, il_160, il_162, il_200, il_210, il_240, il_264, il_280, il_281, il_300, il_364, il_368, il_599, il_600, il_601, il_999, il_1610, il_1620, il_1800, il_4000, il_5000, il_7000, il_14500, il_58240, il_1000000, n00, not_true_eq_false, not_false_eq_true, false_implies, true_implies, forall_const, implies_true, and_true, true_and, Classical.not_not, o168 K3, r168_2 K3, s170 K3, ix_nI (show p0 < 2 ^ 31 by omega), nI_clamp (show p0 < 2 ^ 31 by omega), z3, forall_eq, Option.some.injEq, exists_eq_left', Option.getD_some, Value.int.injEq, Value.long.injEq, pk_mul, inx (show 4 * n < 2 ^ 31 by omega), hi, meC K3 (show 2 ≤ 9 by decide), meH K3 (show 2 ≤ 9 by decide), meV]
        exact ⟨by omega, D_f x Fc (by decide) (by decide) G3⟩
    · rw [if_neg r0]
      simp only [not_true_eq_false, not_false_eq_true, false_implies, true_implies, forall_const, implies_true, and_true, true_and, Classical.not_not, o0 K1]
      refine c_f K1 3 (by decide) (by decide) ⟨_, rfl, ?_⟩
      refine X12_pieceOf_e (X12_pieceOf_0 ⟨o168 K1, m_refusal (R1_cF x.2 Fc 3) (kc_f Fc 3) hp0 hn h40 O (fun w => absurd w r0) (fun _ h3 G3 => ⟨_, rfl, ?_⟩)⟩)
      have n13 : ¬ (nI 0 : Int32) ≤ -nI 13 := by decide
      simp only [il_0, il_1, il_2, il_3, il_4, il_5, il_6, il_7, il_8, il_9, il_10, il_11, il_12, il_13, il_14, il_15, il_16, il_17, il_18, il_19, il_20, il_24, il_30, il_31, il_38, il_39, il_40, il_41, il_48, il_50, il_59, il_60, il_63, il_64, il_70, il_80, il_99, il_100, il_120, il_130, il_140, il_144, il_159, il_160, il_162, il_200, il_210, il_240, il_264, il_280, il_281, il_300, il_364, il_368, il_599, il_600, il_601, il_999, il_1610, il_1620, il_1800, il_4000, il_5000, il_7000, il_14500, il_58240, il_1000000, n13, not_true_eq_false, not_false_eq_true, false_implies, true_implies, forall_const, implies_true, and_true, true_and, Classical.not_not]
      exact D_f x Fc (by decide) (by decide) G3
  · simp only [o0 K, hasPC K, hasP hN h24, hp, forall_eq, Option.some.injEq, exists_eq_left', Option.getD_some, Value.int.injEq, Value.long.injEq, not_true_eq_false, not_false_eq_true, false_implies, true_implies, forall_const, implies_true, and_true, true_and, Classical.not_not, il_0, il_1, il_2, il_3, il_4, il_5, il_6, il_7, il_8, il_9, il_10, il_11, il_12, il_13, il_14, il_15, il_16, il_17, il_18, il_19, il_20, il_24, il_30, il_31, il_38, il_39, il_40, il_41, il_48, il_50, il_59, il_60, il_63, il_64, il_70, il_80, il_99, il_100, il_120, il_130, il_140, il_144, il_159, il_160, il_162, il_200, il_210, il_240, il_264, il_280, il_281, il_300, il_364, il_368, il_599, il_600, il_601, il_999, il_1610, il_1620, il_1800, il_4000, il_5000, il_7000, il_14500, il_58240, il_1000000]
    refine c_no K 2 (by decide) ⟨_, rfl, ?_⟩
    refine X12_pieceOf_e (X12_pieceOf_0 ⟨o168 K, m_refusal_no (R1_cNo x.2 (fcs_refl h) (-nI 2)) hp ⟨_, rfl, ?_⟩⟩)
    have n2 : ¬ (nI 0 : Int32) ≤ -nI 2 := by decide
    simp only [il_0, il_1, il_2, il_3, il_4, il_5, il_6, il_7, il_8, il_9, il_10, il_11, il_12, il_13, il_14, il_15, il_16, il_17, il_18, il_19, il_20, il_24, il_30, il_31, il_38, il_39, il_40, il_41, il_48, il_50, il_59, il_60, il_63, il_64, il_70, il_80, il_99, il_100, il_120, il_130, il_140, il_144, il_159, il_160, il_162, il_200, il_210, il_240, il_264, il_280, il_281, il_300, il_364, il_368, il_599, il_600, il_601, il_999, il_1610, il_1620, il_1800, il_4000, il_5000, il_7000, il_14500, il_58240, il_1000000, n2, not_true_eq_false, not_false_eq_true, false_implies, true_implies, forall_const, implies_true, and_true, true_and, Classical.not_not]
    exact D_no x (fcs_refl h) _ (fms_refl _)
theorem in05 {v : Int32} (h : AH) : X12_in_V v.toInt64 0 5 h = nI 0 ↔ ¬ ix v 6 := by
  refine (in_rg (v := v) 0 5 (by decide) (by decide) h).trans ?_
  unfold ix
  constructor <;> intro q p <;> exact q ⟨by omega, by omega⟩
theorem st_told (x : R0 h W N B S len) (p c : Int32) : ST yX11_told mX11_told yX12_told mX12_told (d + 5) (d + 5) [.int p, .int c] h bc bs W S len := by
  have K := x.2.1
  obtain ⟨h24, hN, hN2, hP⟩ := x.2.2.2.2.1
  refine X11_told_e (X11_told_0 ?_)
  by_cases hp : ix p N
  · by_cases hw : ix c 6
    · obtain ⟨p0, hp0, rfl⟩ := ix_of hp (by omega)
      obtain ⟨w, hw6, rfl⟩ := ix_of hw (by omega)
      obtain ⟨x1, -, pt1, -, ⟨n, l, y1, y2, y3, y4, y5, y6, -⟩, -⟩ := (hP p0 hp0).2
      have hq := (hP p0 hp0).1
      have hp24 : p0 < 24 := by omega
      have hp36 : p0 < 368 := by omega
      have hv : ∀ (w : Nat) (hc : AH), X12_in_V (Int32.toInt64 (nI w)) 0 5 hc = nI 0 ↔ ¬ ix (nI w) 6 := fun w hc => in05 hc
      by_cases w01 : w = 0 ∨ w = 1
      · have Kc : sp (cNo h (nI 0)) := K
        have q2 : ah_i (cNo h (nI 0)) 170 p0 = nI n := y2
        have q5 : ah_i (cNo h (nI 0)) 171 p0 = nI l := y5
        have q6 : ah_f (cNo h (nI 0)) 168 6 = nI N := by unfold cNo; rw [f_sf_n _ _ _ _ _ (by decide)]; exact hN2
        rcases w01 with w0 | w0
        · subst w0
          simp +decide (disch := omega) only [o0 K, hasPC K, hasP hN h24, hp, r0_0 K, s1 K, hq, pt_o pt1, grC K, grV, grH, y1, hp24, forall_eq, Option.some.injEq, exists_eq_left', Option.getD_some, Value.int.injEq, Value.long.injEq, not_true_eq_false, not_false_eq_true, false_implies, true_implies, forall_const, implies_true, and_true, true_and, Classical.not_not, il_0, il_1, il_2, il_3, il_4, il_5, il_6, il_7, il_8, il_9, il_10, il_11, il_12, il_13, il_14, il_15, il_16, il_17, il_18, il_19, il_20, il_24, il_30, il_31, il_38, il_39, il_40, il_41, il_48, il_50, il_59, il_60, il_63, il_64, il_70, il_80, il_99, il_100, il_120, il_130, il_140, il_144, il_159, il_160, il_162, il_200, il_210, il_240, il_264, il_280, il_281, il_300, il_364, il_368, il_599, il_600, il_601, il_999, il_1610, il_1620, il_1800, il_4000, il_5000, il_7000, il_14500, il_58240, il_1000000, m1_e, nI_1, nI_add, pk_mul, pk_div, pk_sub, nI_clamp, nI_leI, nI_ltI, nI_eq, m1_lt, m1_le, m1_gt, m1_ge, m1_ne, m1_en, ix_nI, im_nI, and1, and3, sh2_, shr2, corner_nI, turned_nI]
          refine X12_told_e (X12_told_0 ?_)
          simp +decide (disch := omega) only [o168 Kc, isPC Kc, isP_ q6 h24, hp, hv, hw, r168_2 Kc, s170 Kc, q2, weC Kc, weV, weH, hp36, forall_eq, Option.some.injEq, exists_eq_left', Option.getD_some, Value.int.injEq, Value.long.injEq, not_true_eq_false, not_false_eq_true, false_implies, true_implies, forall_const, implies_true, and_true, true_and, Classical.not_not, il_0, il_1, il_2, il_3, il_4, il_5, il_6, il_7, il_8, il_9, il_10, il_11, il_12, il_13, il_14, il_15, il_16, il_17, il_18, il_19, il_20, il_24, il_30, il_31, il_38, il_39, il_40, il_41, il_48, il_50, il_59, il_60, il_63, il_64, il_70, il_80, il_99, il_100, il_120, il_130, il_140, il_144, il_159, il_160, il_162, il_200, il_210, il_240, il_264, il_280, il_281, il_300, il_364, il_368, il_599, il_600, il_601, il_999, il_1610, il_1620, il_1800, il_4000, il_5000, il_7000, il_14500, il_58240, il_1000000, m1_e, nI_1, nI_add, pk_mul, pk_div, pk_sub, nI_clamp, nI_leI, nI_ltI, nI_eq, m1_lt, m1_le, m1_gt, m1_ge, m1_ne, m1_en, ix_nI, im_nI, and1, and3, sh2_, shr2, corner_nI, turned_nI]
          exact D_no x (fcs_refl h) (nI 0) (fms_refl _)
        · subst w0
          simp +decide (disch := omega) only [o0 K, hasPC K, hasP hN h24, hp, r0_0 K, s1 K, hq, pt_o pt1, grC K, grV, grH, y4, hp24, forall_eq, Option.some.injEq, exists_eq_left', Option.getD_some, Value.int.injEq, Value.long.injEq, not_true_eq_false, not_false_eq_true, false_implies, true_implies, forall_const, implies_true, and_true, true_and, Classical.not_not, il_0, il_1, il_2, il_3, il_4, il_5, il_6, il_7, il_8, il_9, il_10, il_11, il_12, il_13, il_14, il_15, il_16, il_17, il_18, il_19, il_20, il_24, il_30, il_31, il_38, il_39, il_40, il_41, il_48, il_50, il_59, il_60, il_63, il_64, il_70, il_80, il_99, il_100, il_120, il_130, il_140, il_144, il_159, il_160, il_162, il_200, il_210, il_240, il_264, il_280, il_281, il_300, il_364, il_368, il_599, il_600, il_601, il_999, il_1610, il_1620, il_1800, il_4000, il_5000, il_7000, il_14500, il_58240, il_1000000, m1_e, nI_1, nI_add, pk_mul, pk_div, pk_sub, nI_clamp, nI_leI, nI_ltI, nI_eq, m1_lt, m1_le, m1_gt, m1_ge, m1_ne, m1_en, ix_nI, im_nI, and1, and3, sh2_, shr2, corner_nI, turned_nI]
          refine X12_told_e (X12_told_0 ?_)
          simp +decide (disch := omega) only [o168 Kc, isPC Kc, isP_ q6 h24, hp, hv, hw, r168_3 Kc, s171 Kc, q5, weC Kc, weV, weH, hp36, forall_eq, Option.some.injEq, exists_eq_left', Option.getD_some, Value.int.injEq, Value.long.injEq, not_true_eq_false, not_false_eq_true, false_implies, true_implies, forall_const, implies_true, and_true, true_and, Classical.not_not, il_0, il_1, il_2, il_3, il_4, il_5, il_6, il_7, il_8, il_9, il_10, il_11, il_12, il_13, il_14, il_15, il_16, il_17, il_18, il_19, il_20, il_24, il_30, il_31, il_38, il_39, il_40, il_41, il_48, il_50, il_59, il_60, il_63, il_64, il_70, il_80, il_99, il_100, il_120, il_130, il_140, il_144, il_159, il_160, il_162, il_200, il_210, il_240, il_264, il_280, il_281, il_300, il_364, il_368, il_599, il_600, il_601, il_999, il_1610, il_1620, il_1800, il_4000, il_5000, il_7000, il_14500, il_58240, il_1000000, m1_e, nI_1, nI_add, pk_mul, pk_div, pk_sub, nI_clamp, nI_leI, nI_ltI, nI_eq, m1_lt, m1_le, m1_gt, m1_ge, m1_ne, m1_en, ix_nI, im_nI, and1, and3, sh2_, shr2, corner_nI, turned_nI]
          exact D_no x (fcs_refl h) (nI 0) (fms_refl _)
      · have w2 : 2 ≤ w := by omega
        have hw0 : ¬ w = 0 := by omega
        have hw1 : ¬ w = 1 := by omega
        have hw5 : w ≤ 5 := by omega
        simp (disch := omega) only [o0 K, hasPC K, hasP hN h24, hp, r0_4 K, hw0, hw1, hw5, Nat.not_lt_zero, forall_eq, Option.some.injEq, exists_eq_left', Option.getD_some, Value.int.injEq, Value.long.injEq, not_true_eq_false, not_false_eq_true, false_implies, true_implies, forall_const, implies_true, and_true, true_and, Classical.not_not, il_0, il_1, il_2, il_3, il_4, il_5, il_6, il_7, il_8, il_9, il_10, il_11, il_12, il_13, il_14, il_15, il_16, il_17, il_18, il_19, il_20, il_24, il_30, il_31, il_38, il_39, il_40, il_41, il_48, il_50, il_59, il_60, il_63, il_64, il_70, il_80, il_99, il_100, il_120, il_130, il_140, il_144, il_159, il_160, il_162, il_200, il_210, il_240, il_264, il_280, il_281, il_300, il_364, il_368, il_599, il_600, il_601, il_999, il_1610, il_1620, il_1800, il_4000, il_5000, il_7000, il_14500, il_58240, il_1000000, m1_e, nI_1, nI_add, pk_mul, pk_div, pk_sub, nI_clamp, nI_leI, nI_ltI, nI_eq, m1_lt, m1_le, m1_gt, m1_ge, m1_ne, m1_en, ix_nI, im_nI, and1, and3, sh2_, shr2, corner_nI, turned_nI]
        refine c_isWhole x.2 hp0 (Or.inl rfl) (fun h1 n' r pl hn h40 Lp => ⟨_, rfl, ?_⟩)
        obtain ⟨F, l1, l2, l3, l4, O, LFh⟩ := Lp
        have Fc := fcs_fr F lkc7
        have K1 := sp_fr K F
        by_cases r0 : r = 0
        · subst r0
          have LFh := LFh rfl
          have hd := (opn_0 O).2.2.1
          have P := hd.mt
          have n10 : ¬ (nI 1 : Int32) = nI 0 := by decide
          have Kc : sp (cNo h1 (nI 0)) := K1
          have q6 : ah_f (cNo h1 (nI 0)) 168 6 = nI N := by
            unfold cNo
            rw [f_sf_n _ _ _ _ _ (by decide), fr_f F 168 (by decide)]
            exact hN2
          rw [if_pos rfl]
          have hl3 : ∀ h3, fms (cNo h1 (nI 0)) h3 → ah_i h3 171 p0 = nI l := fun h3 G => by
            rw [(G.2.2.2.2 p0 (by omega)).2.1]
            show ah_i h1 171 p0 = nI l
            rw [fr_i F 171 (by decide)]
            exact y5
          have nle : ¬ w ≤ 1 := by omega
          rcases (show w = 2 ∨ w = 3 ∨ w = 4 ∨ w = 5 by omega) with e | e | e | e
          · subst e
            have a1 : X4_allPieces_V 7 h1 = nI (nQ n' (mt n' (AN (ah_i h (B p0 + 2)))) + l) := by
              unfold X4_allPieces_V
              rw [LFh.2.2.2.2.1, l2, y4, nI_add]
            have a2 : X4_allPieces_C 7 h1 := ⟨o7 K1, trivial⟩
            simp +decide (disch := omega) only [n10, o0 K1, r0_4 K1, o7 K1, a1, a2, grC K1, grV, grH, forall_eq, Option.some.injEq, exists_eq_left', Option.getD_some, Value.int.injEq, Value.long.injEq, not_true_eq_false, not_false_eq_true, false_implies, true_implies, forall_const, implies_true, and_true, true_and, Classical.not_not, il_0, il_1, il_2, il_3, il_4, il_5, il_6, il_7, il_8, il_9, il_10, il_11, il_12, il_13, il_14, il_15, il_16, il_17, il_18, il_19, il_20, il_24, il_30, il_31, il_38, il_39, il_40, il_41, il_48, il_50, il_59, il_60, il_63, il_64, il_70, il_80, il_99, il_100, il_120, il_130, il_140, il_144, il_159, il_160, il_162, il_200, il_210, il_240, il_264, il_280, il_281, il_300, il_364, il_368, il_599, il_600, il_601, il_999, il_1610, il_1620, il_1800, il_4000, il_5000, il_7000, il_14500, il_58240, il_1000000, m1_e, nI_1, nI_add, pk_mul, pk_div, pk_sub, nI_clamp, nI_leI, nI_ltI, nI_eq, m1_lt, m1_le, m1_gt, m1_ge, m1_ne, m1_en, ix_nI, im_nI, and1, and3, sh2_, shr2, corner_nI, turned_nI]
            refine X12_told_e (X12_told_0 ?_)
            simp +decide (disch := omega) only [o168 Kc, isPC Kc, isP_ q6 h24, hp, hv, hw, hp36, forall_eq, Option.some.injEq, exists_eq_left', Option.getD_some, Value.int.injEq, Value.long.injEq, not_true_eq_false, not_false_eq_true, false_implies, true_implies, forall_const, implies_true, and_true, true_and, Classical.not_not, il_0, il_1, il_2, il_3, il_4, il_5, il_6, il_7, il_8, il_9, il_10, il_11, il_12, il_13, il_14, il_15, il_16, il_17, il_18, il_19, il_20, il_24, il_30, il_31, il_38, il_39, il_40, il_41, il_48, il_50, il_59, il_60, il_63, il_64, il_70, il_80, il_99, il_100, il_120, il_130, il_140, il_144, il_159, il_160, il_162, il_200, il_210, il_240, il_264, il_280, il_281, il_300, il_364, il_368, il_599, il_600, il_601, il_999, il_1610, il_1620, il_1800, il_4000, il_5000, il_7000, il_14500, il_58240, il_1000000, m1_e, nI_1, nI_add, pk_mul, pk_div, pk_sub, nI_clamp, nI_leI, nI_ltI, nI_eq, m1_lt, m1_le, m1_gt, m1_ge, m1_ne, m1_en, ix_nI, im_nI, and1, and3, sh2_, shr2, corner_nI, turned_nI]
            refine m_refusal (R1_cNo x.2 Fc (nI 0)) (kc_no Fc (nI 0)) hp0 hn h40 O (fun _ h3 G3 G3' z3 g3 => ⟨_, rfl, ?_⟩) (fun w => absurd rfl w)
            have K3 := G3.2.2.1 Kc
            refine ⟨fun _ => ⟨o168 K3, m_piecesOf K3 (by omega) z3 h40 g3 P (fun h4 F4 g4 => ⟨_, rfl, o168 (sp_fr K3 F4), 171, r168_3 (sp_fr K3 F4), (s171 (sp_fr K3 F4) _).mpr ((ix_nI (by omega)).mpr (by omega)), weC (sp_fr K3 F4) _, ?_⟩)⟩, fun z => absurd (show (nI 0 : Int32) ≤ nI 0 by decide) z⟩
            rw [fr_i F4 171 (by decide), hl3 h3 G3, nI_add]
            exact ⟨rfl, D_no x Fc (nI 0) (fms_trans G3 (fms_sc F4 (by decide)))⟩
          · subst e
            have a1 := LFh.2.1
            simp +decide (disch := omega) only [n10, o0 K1, r0_4 K1, o7 K1, a1, grC K1, grV, grH, forall_eq, Option.some.injEq, exists_eq_left', Option.getD_some, Value.int.injEq, Value.long.injEq, not_true_eq_false, not_false_eq_true, false_implies, true_implies, forall_const, implies_true, and_true, true_and, Classical.not_not, il_0, il_1, il_2, il_3, il_4, il_5, il_6, il_7, il_8, il_9, il_10, il_11, il_12, il_13, il_14, il_15, il_16, il_17, il_18, il_19, il_20, il_24, il_30, il_31, il_38, il_39, il_40, il_41, il_48, il_50, il_59, il_60, il_63, il_64, il_70, il_80, il_99, il_100, il_120, il_130, il_140, il_144, il_159, il_160, il_162, il_200, il_210, il_240, il_264, il_280, il_281, il_300, il_364, il_368, il_599, il_600, il_601, il_999, il_1610, il_1620, il_1800, il_4000, il_5000, il_7000, il_14500, il_58240, il_1000000, m1_e, nI_1, nI_add, pk_mul, pk_div, pk_sub, nI_clamp, nI_leI, nI_ltI, nI_eq, m1_lt, m1_le, m1_gt, m1_ge, m1_ne, m1_en, ix_nI, im_nI, and1, and3, sh2_, shr2, corner_nI, turned_nI]
            refine X12_told_e (X12_told_0 ?_)
            simp +decide (disch := omega) only [o168 Kc, isPC Kc, isP_ q6 h24, hp, hv, hw, hp36, forall_eq, Option.some.injEq, exists_eq_left', Option.getD_some, Value.int.injEq, Value.long.injEq, not_true_eq_false, not_false_eq_true, false_implies, true_implies, forall_const, implies_true, and_true, true_and, Classical.not_not, il_0, il_1, il_2, il_3, il_4, il_5, il_6, il_7, il_8, il_9, il_10, il_11, il_12, il_13, il_14, il_15, il_16, il_17, il_18, il_19, il_20, il_24, il_30, il_31, il_38, il_39, il_40, il_41, il_48, il_50, il_59, il_60, il_63, il_64, il_70, il_80, il_99, il_100, il_120, il_130, il_140, il_144, il_159, il_160, il_162, il_200, il_210, il_240, il_264, il_280, il_281, il_300, il_364, il_368, il_599, il_600, il_601, il_999, il_1610, il_1620, il_1800, il_4000, il_5000, il_7000, il_14500, il_58240, il_1000000, m1_e, nI_1, nI_add, pk_mul, pk_div, pk_sub, nI_clamp, nI_leI, nI_ltI, nI_eq, m1_lt, m1_le, m1_gt, m1_ge, m1_ne, m1_en, ix_nI, im_nI, and1, and3, sh2_, shr2, corner_nI, turned_nI]
            refine m_refusal (R1_cNo x.2 Fc (nI 0)) (kc_no Fc (nI 0)) hp0 hn h40 O (fun _ h3 G3 G3' z3 g3 => ⟨_, rfl, ?_⟩) (fun w => absurd rfl w)
            have K3 := G3.2.2.1 Kc
            refine ⟨fun _ => ⟨o168 K3, m_facesOf K3 (by omega) z3 h40 g3 P (fun h4 F4 => ⟨_, rfl, o168 (sp_fr K3 F4), weC (sp_fr K3 F4) _, ?_⟩)⟩, fun z => absurd (show (nI 0 : Int32) ≤ nI 0 by decide) z⟩
            exact ⟨rfl, D_no x Fc (nI 0) (fms_trans G3 (fms_sc F4 (by decide)))⟩
          · subst e
            have a1 := LFh.2.2.2.1
            simp +decide (disch := omega) only [n10, o0 K1, r0_4 K1, o7 K1, a1, grC K1, grV, grH, forall_eq, Option.some.injEq, exists_eq_left', Option.getD_some, Value.int.injEq, Value.long.injEq, not_true_eq_false, not_false_eq_true, false_implies, true_implies, forall_const, implies_true, and_true, true_and, Classical.not_not, il_0, il_1, il_2, il_3, il_4, il_5, il_6, il_7, il_8, il_9, il_10, il_11, il_12, il_13, il_14, il_15, il_16, il_17, il_18, il_19, il_20, il_24, il_30, il_31, il_38, il_39, il_40, il_41, il_48, il_50, il_59, il_60, il_63, il_64, il_70, il_80, il_99, il_100, il_120, il_130, il_140, il_144, il_159, il_160, il_162, il_200, il_210, il_240, il_264, il_280, il_281, il_300, il_364, il_368, il_599, il_600, il_601, il_999, il_1610, il_1620, il_1800, il_4000, il_5000, il_7000, il_14500, il_58240, il_1000000, m1_e, nI_1, nI_add, pk_mul, pk_div, pk_sub, nI_clamp, nI_leI, nI_ltI, nI_eq, m1_lt, m1_le, m1_gt, m1_ge, m1_ne, m1_en, ix_nI, im_nI, and1, and3, sh2_, shr2, corner_nI, turned_nI]
            refine X12_told_e (X12_told_0 ?_)
            simp +decide (disch := omega) only [o168 Kc, isPC Kc, isP_ q6 h24, hp, hv, hw, hp36, forall_eq, Option.some.injEq, exists_eq_left', Option.getD_some, Value.int.injEq, Value.long.injEq, not_true_eq_false, not_false_eq_true, false_implies, true_implies, forall_const, implies_true, and_true, true_and, Classical.not_not, il_0, il_1, il_2, il_3, il_4, il_5, il_6, il_7, il_8, il_9, il_10, il_11, il_12, il_13, il_14, il_15, il_16, il_17, il_18, il_19, il_20, il_24, il_30, il_31, il_38, il_39, il_40, il_41, il_48, il_50, il_59, il_60, il_63, il_64, il_70, il_80, il_99, il_100, il_120, il_130, il_140, il_144, il_159, il_160, il_162, il_200, il_210, il_240, il_264, il_280, il_281, il_300, il_364, il_368, il_599, il_600, il_601, il_999, il_1610, il_1620, il_1800, il_4000, il_5000, il_7000, il_14500, il_58240, il_1000000, m1_e, nI_1, nI_add, pk_mul, pk_div, pk_sub, nI_clamp, nI_leI, nI_ltI, nI_eq, m1_lt, m1_le, m1_gt, m1_ge, m1_ne, m1_en, ix_nI, im_nI, and1, and3, sh2_, shr2, corner_nI, turned_nI]
            refine m_refusal (R1_cNo x.2 Fc (nI 0)) (kc_no Fc (nI 0)) hp0 hn h40 O (fun _ h3 G3 G3' z3 g3 => ⟨_, rfl, ?_⟩) (fun w => absurd rfl w)
            have K3 := G3.2.2.1 Kc
            refine ⟨fun _ => ⟨o168 K3, m_partsOf K3 (by omega) z3 h40 g3 P (fun h4 F4 _ => ⟨_, rfl, o168 (sp_fr K3 F4), weC (sp_fr K3 F4) _, ?_⟩)⟩, fun z => absurd (show (nI 0 : Int32) ≤ nI 0 by decide) z⟩
            exact ⟨rfl, D_no x Fc (nI 0) (fms_trans G3 (fms_sc F4 (by decide)))⟩
          · subst e
            have a1 := LFh.2.2.2.2.2.2.2.2
            simp +decide (disch := omega) only [n10, o0 K1, r0_4 K1, o7 K1, a1, grC K1, grV, grH, forall_eq, Option.some.injEq, exists_eq_left', Option.getD_some, Value.int.injEq, Value.long.injEq, not_true_eq_false, not_false_eq_true, false_implies, true_implies, forall_const, implies_true, and_true, true_and, Classical.not_not, il_0, il_1, il_2, il_3, il_4, il_5, il_6, il_7, il_8, il_9, il_10, il_11, il_12, il_13, il_14, il_15, il_16, il_17, il_18, il_19, il_20, il_24, il_30, il_31, il_38, il_39, il_40, il_41, il_48, il_50, il_59, il_60, il_63, il_64, il_70, il_80, il_99, il_100, il_120, il_130, il_140, il_144, il_159, il_160, il_162, il_200, il_210, il_240, il_264, il_280, il_281, il_300, il_364, il_368, il_599, il_600, il_601, il_999, il_1610, il_1620, il_1800, il_4000, il_5000, il_7000, il_14500, il_58240, il_1000000, m1_e, nI_1, nI_add, pk_mul, pk_div, pk_sub, nI_clamp, nI_leI, nI_ltI, nI_eq, m1_lt, m1_le, m1_gt, m1_ge, m1_ne, m1_en, ix_nI, im_nI, and1, and3, sh2_, shr2, corner_nI, turned_nI]
            refine X12_told_e (X12_told_0 ?_)
            simp +decide (disch := omega) only [o168 Kc, isPC Kc, isP_ q6 h24, hp, hv, hw, hp36, forall_eq, Option.some.injEq, exists_eq_left', Option.getD_some, Value.int.injEq, Value.long.injEq, not_true_eq_false, not_false_eq_true, false_implies, true_implies, forall_const, implies_true, and_true, true_and, Classical.not_not, il_0, il_1, il_2, il_3, il_4, il_5, il_6, il_7, il_8, il_9, il_10, il_11, il_12, il_13, il_14, il_15, il_16, il_17, il_18, il_19, il_20, il_24, il_30, il_31, il_38, il_39, il_40, il_41, il_48, il_50, il_59, il_60, il_63, il_64, il_70, il_80, il_99, il_100, il_120, il_130, il_140, il_144, il_159, il_160, il_162, il_200, il_210, il_240, il_264, il_280, il_281, il_300, il_364, il_368, il_599, il_600, il_601, il_999, il_1610, il_1620, il_1800, il_4000, il_5000, il_7000, il_14500, il_58240, il_1000000, m1_e, nI_1, nI_add, pk_mul, pk_div, pk_sub, nI_clamp, nI_leI, nI_ltI, nI_eq, m1_lt, m1_le, m1_gt, m1_ge, m1_ne, m1_en, ix_nI, im_nI, and1, and3, sh2_, shr2, corner_nI, turned_nI]
            refine m_refusal (R1_cNo x.2 Fc (nI 0)) (kc_no Fc (nI 0)) hp0 hn h40 O (fun _ h3 G3 G3' z3 g3 => ⟨_, rfl, ?_⟩) (fun w => absurd rfl w)
            have K3 := G3.2.2.1 Kc
            refine ⟨fun _ => ⟨o168 K3, m_writheOf (d := d + 2) K3 (by omega) z3 h40 g3 P (fun h4 F4 _ => ⟨_, rfl, o168 (sp_fr K3 F4), weC (sp_fr K3 F4) _, ?_⟩)⟩, fun z => absurd (show (nI 0 : Int32) ≤ nI 0 by decide) z⟩
            exact ⟨rfl, D_no x Fc (nI 0) (fms_trans G3 (fms_sc F4 (by decide)))⟩
        · rw [if_neg r0]
          have Kc : sp (cF h1 3) := K1
          have q6 : ah_f (cF h1 3) 168 6 = nI N := by
            unfold cF
            rw [f_si, f_sf_n _ _ _ _ _ (by decide), fr_f F 168 (by decide)]
            exact hN2
          simp only [not_true_eq_false, not_false_eq_true, false_implies, true_implies, forall_const, implies_true, and_true, true_and, Classical.not_not, o0 K1]
          refine c_f K1 3 (by decide) (by decide) ⟨_, rfl, ?_⟩
          refine X12_told_e (X12_told_0 ?_)
          simp (disch := omega) only [o168 Kc, isPC Kc, isP_ q6 h24, hp, hv, hw, w2, hp36, forall_eq, Option.some.injEq, exists_eq_left', Option.getD_some, Value.int.injEq, Value.long.injEq, not_true_eq_false, not_false_eq_true, false_implies, true_implies, forall_const, implies_true, and_true, true_and, Classical.not_not, il_0, il_1, il_2, il_3, il_4, il_5, il_6, il_7, il_8, il_9, il_10, il_11, il_12, il_13, il_14, il_15, il_16, il_17, il_18, il_19, il_20, il_24, il_30, il_31, il_38, il_39, il_40, il_41, il_48, il_50, il_59, il_60, il_63, il_64, il_70, il_80, il_99, il_100, il_120, il_130, il_140, il_144, il_159, il_160, il_162, il_200, il_210, il_240, il_264, il_280, il_281, il_300, il_364, il_368, il_599, il_600, il_601, il_999, il_1610, il_1620, il_1800, il_4000, il_5000, il_7000, il_14500, il_58240, il_1000000, m1_e, nI_1, nI_add, pk_mul, pk_div, pk_sub, nI_clamp, nI_leI, nI_ltI, nI_eq, m1_lt, m1_le, m1_gt, m1_ge, m1_ne, m1_en, ix_nI, im_nI, and1, and3, sh2_, shr2, corner_nI, turned_nI]
          refine m_refusal (R1_cF x.2 Fc 3) (kc_f Fc 3) hp0 hn h40 O (fun w => absurd w r0) (fun _ h3 G3 => ⟨_, rfl, ?_⟩)
          have n13 : ¬ (nI 0 : Int32) ≤ -nI 13 := by decide
          simp only [n13, not_true_eq_false, not_false_eq_true, false_implies, true_implies, forall_const, implies_true, and_true, true_and, Classical.not_not]
          exact D_f x Fc (by decide) (by decide) G3
    · have hc6 : c < 0 ∨ (¬ c < 0 ∧ ¬ c ≤ 5) := by
        rcases ix_cases c (n := 6) (by decide) with q | q | ⟨j, hj, q⟩
        · exact Or.inl q.1
        · by_cases z : c < 0
          · exact Or.inl z
          · refine Or.inr ⟨z, fun w => ?_⟩
            have a1 := Int32.le_iff_toInt_le.mp w
            have a2 := Int32.le_iff_toInt_le.mp q.1
            rw [nI_toInt (by decide)] at a2
            have : (5 : Int32).toInt = 5 := by decide
            omega
        · exact absurd (by rw [q, ix_nI (by omega)]; exact hj) hw
      have Kc : sp (cNo h (-nI 2)) := K
      have q6 : ah_f (cNo h (-nI 2)) 168 6 = nI N := by unfold cNo; rw [f_sf_n _ _ _ _ _ (by decide)]; exact hN2
      have mm : ex_S yX12_told mX12_told (d + 5) [.ref 168, .int p, .int c] (cNo h (-nI 2)) 0 0 (fun r' h2 => r' = some (.int (-nI 2)) ∧ DONE h h2 W S len) := by
        refine X12_told_e (X12_told_0 ?_)
        have hv : X12_in_V (Int32.toInt64 c) 0 5 (cNo h (-nI 2)) = nI 0 ↔ ¬ ix c 6 := in05 _
        simp only [o168 Kc, isPC Kc, isP_ q6 h24, hp, hv, hw, noC Kc, noV, noH, forall_eq, Option.some.injEq, exists_eq_left', Option.getD_some, Value.int.injEq, Value.long.injEq, not_true_eq_false, not_false_eq_true, false_implies, true_implies, forall_const, implies_true, and_true, true_and, Classical.not_not, il_0, il_1, il_2, il_3, il_4, il_5, il_6, il_7, il_8, il_9, il_10, il_11, il_12, il_13, il_14, il_15, il_16, il_17, il_18, il_19, il_20, il_24, il_30, il_31, il_38, il_39, il_40, il_41, il_48, il_50, il_59, il_60, il_63, il_64, il_70, il_80, il_99, il_100, il_120, il_130, il_140, il_144, il_159, il_160, il_162, il_200, il_210, il_240, il_264, il_280, il_281, il_300, il_364, il_368, il_599, il_600, il_601, il_999, il_1610, il_1620, il_1800, il_4000, il_5000, il_7000, il_14500, il_58240, il_1000000]
        exact D_no x (fcs_refl h) _ (fms_refl _)
      rcases hc6 with z | ⟨z1, z2⟩
      · have z' : c < nI 0 := z
        simp only [o0 K, hasPC K, hasP hN h24, hp, z', forall_eq, Option.some.injEq, exists_eq_left', Option.getD_some, Value.int.injEq, Value.long.injEq, not_true_eq_false, not_false_eq_true, false_implies, true_implies, forall_const, implies_true, and_true, true_and, Classical.not_not, il_0, il_1, il_2, il_3, il_4, il_5, il_6, il_7, il_8, il_9, il_10, il_11, il_12, il_13, il_14, il_15, il_16, il_17, il_18, il_19, il_20, il_24, il_30, il_31, il_38, il_39, il_40, il_41, il_48, il_50, il_59, il_60, il_63, il_64, il_70, il_80, il_99, il_100, il_120, il_130, il_140, il_144, il_159, il_160, il_162, il_200, il_210, il_240, il_264, il_280, il_281, il_300, il_364, il_368, il_599, il_600, il_601, il_999, il_1610, il_1620, il_1800, il_4000, il_5000, il_7000, il_14500, il_58240, il_1000000]
        exact c_no K 2 (by decide) ⟨_, rfl, mm⟩
      · have z1' : ¬ c < nI 0 := z1
        have z2' : ¬ c ≤ nI 5 := z2
        simp only [o0 K, hasPC K, hasP hN h24, hp, z1', z2', forall_eq, Option.some.injEq, exists_eq_left', Option.getD_some, Value.int.injEq, Value.long.injEq, not_true_eq_false, not_false_eq_true, false_implies, true_implies, forall_const, implies_true, and_true, true_and, Classical.not_not, il_0, il_1, il_2, il_3, il_4, il_5, il_6, il_7, il_8, il_9, il_10, il_11, il_12, il_13, il_14, il_15, il_16, il_17, il_18, il_19, il_20, il_24, il_30, il_31, il_38, il_39, il_40, il_41, il_48, il_50, il_59, il_60, il_63, il_64, il_70, il_80, il_99, il_100, il_120, il_130, il_140, il_144, il_159, il_160, il_162, il_200, il_210, il_240, il_264, il_280, il_281, il_300, il_364, il_368, il_599, il_600, il_601, il_999, il_1610, il_1620, il_1800, il_4000, il_5000, il_7000, il_14500, il_58240, il_1000000]
        exact c_no K 2 (by decide) ⟨_, rfl, mm⟩
  · simp only [o0 K, hasPC K, hasP hN h24, hp, forall_eq, Option.some.injEq, exists_eq_left', Option.getD_some, Value.int.injEq, Value.long.injEq, not_true_eq_false, not_false_eq_true, false_implies, true_implies, forall_const, implies_true, and_true, true_and, Classical.not_not, il_0, il_1, il_2, il_3, il_4, il_5, il_6, il_7, il_8, il_9, il_10, il_11, il_12, il_13, il_14, il_15, il_16, il_17, il_18, il_19, il_20, il_24, il_30, il_31, il_38, il_39, il_40, il_41, il_48, il_50, il_59, il_60, il_63, il_64, il_70, il_80, il_99, il_100, il_120, il_130, il_140, il_144, il_159, il_160, il_162, il_200, il_210, il_240, il_264, il_280, il_281, il_300, il_364, il_368, il_599, il_600, il_601, il_999, il_1610, il_1620, il_1800, il_4000, il_5000, il_7000, il_14500, il_58240, il_1000000]
    refine c_no K 2 (by decide) ⟨_, rfl, ?_⟩
    have Kc : sp (cNo h (-nI 2)) := K
    have q6 : ah_f (cNo h (-nI 2)) 168 6 = nI N := by unfold cNo; rw [f_sf_n _ _ _ _ _ (by decide)]; exact hN2
    refine X12_told_e (X12_told_0 ?_)
    simp only [o168 Kc, isPC Kc, isP_ q6 h24, hp, noC Kc, noV, noH, forall_eq, Option.some.injEq, exists_eq_left', Option.getD_some, Value.int.injEq, Value.long.injEq, not_true_eq_false, not_false_eq_true, false_implies, true_implies, forall_const, implies_true, and_true, true_and, Classical.not_not, il_0, il_1, il_2, il_3, il_4, il_5, il_6, il_7, il_8, il_9, il_10, il_11, il_12, il_13, il_14, il_15, il_16, il_17, il_18, il_19, il_20, il_24, il_30, il_31, il_38, il_39, il_40, il_41, il_48, il_50, il_59, il_60, il_63, il_64, il_70, il_80, il_99, il_100, il_120, il_130, il_140, il_144, il_159, il_160, il_162, il_200, il_210, il_240, il_264, il_280, il_281, il_300, il_364, il_368, il_599, il_600, il_601, il_999, il_1610, il_1620, il_1800, il_4000, il_5000, il_7000, il_14500, il_58240, il_1000000]
    exact D_no x (fcs_refl h) _ (fms_refl _)
end Q2
