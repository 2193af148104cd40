/-! book. -/
section DANYN
variable {h h' : AH} {W : Nat → Nat} {N : Nat} {B : Nat → Nat} {S : Nat → Int32} {len : Nat}
theorem D_anyN {W' : Nat → Nat} (x : R0 h W N B S len) (hW : ∀ a, a < ah_n h → W' a = W a) (K' : sp h') (L' : LAC h') (hn : ah_n h ≤ ah_n h') (hn2 : ah_n h' ≤ ah_n h + 303) (E : ∀ a, (a < ah_n h ∨ 10000000 ≤ a) → a ∉ Cscr → a ∉ Mscr → a ∉ Xscr → eqc h h' a) (k0 : ∀ k, k ≠ 17 → k ≠ 18 → k ≠ 19 → ah_f h' 0 k = ah_f h 0 k) (k1 : ∀ k, k ≠ 0 → k ≠ 9 → k ≠ 15 → k ≠ 22 → k ≠ 23 → k ≠ 29 → k ≠ 38 → k ≠ 60 → k ≠ 62 → ah_f h' 168 k = ah_f h 168 k) (C : FC h') (s : ∀ s, s < 364 → sl h h' s) (T1 : NU h' 3 4 29 191 130) (T2 : NU h' 5 6 38 198 3) (R : RS h') (Sp : SPn h') (Bk : BK h' W') : DONE h h' W S len := by
  obtain ⟨y, x0, x1, x2, x3, x4, ⟨x5, x6, x7⟩, x8, x9, x10⟩ := x
  have xl : ∀ a, a ∈ Xscr → a < 216 := by decide
  have h216 := x0.1
  have big : ∀ a, 216 ≤ a → (a < ah_n h ∨ 10000000 ≤ a) → eqc h h' a := fun a ha hh => E a hh (cscr_no ha) (mscr_no ha) (fun q => by have := xl a q; omega)
  refine ⟨W', N, B, ⟨C, K', L', OLD_eq x2 (fun a ha => big a (by omega) (Or.inr ha)), PS_eq x3 hW (k0 15 (by decide) (by decide) (by decide)) (k1 6 (by decide) (by decide) (by decide) (by decide) (by decide) (by decide) (by decide) (by decide) (by decide)) (E 1 (Or.inl (by omega)) (by decide) (by decide) (by decide)).2.2.2.2.2 (E 174 (Or.inl (by omega)) (by decide) (by decide) (by decide)).2.2.1 (fun a a1 a2 _ => big a a1 (Or.inl a2)) (fun t ht => s t (by omega)) hn, MV_eq x4 hW (k0 16 (by decide) (by decide) (by decide)) (k1 35 (by decide) (by decide) (by decide) (by decide) (by decide) (by decide) (by decide) (by decide) (by decide)) (E 2 (Or.inl (by omega)) (by decide) (by decide) (by decide)).2.2.2.2.2 (E 197 (Or.inl (by omega)) (by decide) (by decide) (by decide)).2.2.1 (fun a a1 a2 _ _ => big a a1 (Or.inl a2)) hn, ⟨T1, T2, NU_eq x7 (E 134 (Or.inl (by omega)) (by decide) (by decide) (by decide)).2.1 (k1 59 (by decide) (by decide) (by decide) (by decide) (by decide) (by decide) (by decide) (by decide) (by decide)) (E 135 (Or.inl (by omega)) (by decide) (by decide) (by decide)).2.2.1 (E 212 (Or.inl (by omega)) (by decide) (by decide) (by decide)).2.2.1⟩, R, Sp, Bk⟩, ⟨fun a ha => E a (Or.inl (by omega)) (fun q => ?_) (fun q => ?_) (fun q => ?_), fun k _ _ => k1 k (by omega) (by omega) (by omega) (by omega) (by omega) (by omega) (by omega) (by omega) (by omega), fun t _ ht => s t ht⟩, hW, hn, hn2⟩
  · have := (by decide : ∀ a, a ∈ Cscr → a < 125) a q
    omega
  · have := (by decide : ∀ a, a ∈ Mscr → 168 ≤ a ∧ a < 216 ∧ ¬ (209 ≤ a ∧ a ≤ 211)) a q
    omega
  · have := (by decide : ∀ a, a ∈ Xscr → a < 125 ∨ (163 < a ∧ a < 209) ∨ (211 < a ∧ a < 216)) a q
    omega
end DANYN
section BOOK
variable {h h1 h3 h5 h6 hz : AH} {d bc bs b : Nat} {Q : Option Value → AH → Prop} {W : Nat → Nat} {N : Nat} {B : Nat → Nat} {S : Nat → Int32} {len : Nat}
theorem c_bhas {Nn : Nat} {v : Int64} (K : sp h) (h200 : Nn ≤ 200) (hN : ah_f h 164 2 = nI Nn) (k1 : (∃ k, k < Nn ∧ ah_l h 165 k = v) → Q (some (.int (nI 1))) h) (k0 : (∀ k, k < Nn → ah_l h 165 k ≠ v) → Q (some (.int (nI 0))) h) : ex_S yX0_has mX0_has d [.ref 164, .long v] h bc bs Q := by
  refine X0_has_e (X0_has_0 ?_)
  refine lp Nn (fun j h' => h' = h ∧ ∀ i, i < j → ah_l h 165 i ≠ v) (fun j h' => ex_G mX0_has d 2 [.ref 164, .long v, .retAddr 0, .int (nI j)] [] h' bc bs Q) ⟨rfl, fun i hi => absurd hi (Nat.not_lt_zero i)⟩ ?_ ?_
  · rintro j h1 hj ⟨e, I⟩ nx
    subst e
    have e1 : nI j + 1 = nI (j + 1) := nI_add _ 1
    refine X0_has_2 ⟨o164 K, fun w => by rw [hN, nI_leI (by omega) (by omega)] at w; omega, fun _ => ⟨165, r164_0 K, (s165 K _).mpr ((ix_nI (by omega)).mpr (by omega)), ?_⟩⟩
    rw [nI_clamp (by omega)]
    refine ⟨fun w x6 e6 => ?_, fun w => k1 ⟨j, hj, (lgc0 _ _).mp w⟩⟩
    rw [e6, e1]
    refine nx h1 ⟨rfl, fun i hi => ?_⟩
    by_cases z : i = j
    · rw [z]; exact fun q => w ((lgc0 _ _).mpr q)
    · exact I i (by omega)
  · rintro h1 ⟨e, I⟩
    subst e
    exact X0_has_2 ⟨o164 K, fun _ => k0 I, fun w => absurd (by rw [hN]; exact (nI_leI (by omega) (by omega)).mpr (Nat.le_refl _)) w⟩
/-- the reference looks for a name -/
theorem m_bhas {Nn : Nat} {v : Int64} {p : Int32} (K : sp h) (h200 : Nn ≤ 200) (hN : ah_f h 168 62 = nI Nn) (k1 : (∃ k, k < Nn ∧ ah_l h 214 k = v) → Q (some (.int (-nI (10 + 5)))) (mF h 5)) (k0 : (∀ k, k < Nn → ah_l h 214 k ≠ v) → ex_S yX12_polynomialOf mX12_polynomialOf (d + 5) [.ref 168, .int p] h 0 0 (fun r h3 => r = none ∧ ah_o h3 168 12 ∧ ∃ a5, ah_r h3 168 63 = some a5 ∧ ld2 h3 a5 (ah_f h3 168 62) ∧ ∀ h6, h6 = ah_sl h3 a5 (Int32.toNatClampNeg (ah_f h3 168 62)) v → ex_G mX12_book (d + 6) 109 [.ref 168, .retAddr 0, .retAddr 0, .retAddr 0, .retAddr 0, .int 0] [] h6 bc bs Q)) : ex_G mX12_book (d + 6) 58 [.ref 168, .int p, .long v, .retAddr 0, .retAddr 0, .int (nI 0)] [] h bc bs Q := by
  refine lp Nn (fun j h' => h' = h ∧ ∀ i, i < j → ah_l h 214 i ≠ v) (fun j h' => ex_G mX12_book (d + 6) 58 [.ref 168, .int p, .long v, .retAddr 0, .retAddr 0, .int (nI j)] [] h' bc bs Q) ⟨rfl, fun i hi => absurd hi (Nat.not_lt_zero i)⟩ ?_ ?_
  · rintro j h1 hj ⟨e, I⟩ nx
    subst e
    have e1 : nI j + 1 = nI (j + 1) := nI_add _ 1
    refine X12_book_58 ⟨o168 K, fun w => by rw [hN, nI_leI (by omega) (by omega)] at w; omega, fun _ => ⟨214, r168_63 K, (s214 K _).mpr ((ix_nI (by omega)).mpr (by omega)), ?_⟩⟩
    rw [nI_clamp (by omega)]
    refine ⟨fun w x11 e11 => ?_, fun w => ⟨meC K (f := 5) (by decide), fun h13 e13 => ?_⟩⟩
    · rw [e11, e1]
      refine nx h1 ⟨rfl, fun i hi => ?_⟩
      by_cases z : i = j
      · rw [z]; exact fun q => w ((lgc0 _ _).mpr q)
      · exact I i (by omega)
    · have e13' : h13 = mF h1 5 := by rw [e13]; exact meH K (by decide)
      rw [e13']
      have := k1 ⟨j, hj, (lgc0 _ _).mp w⟩
      rw [← meV (h := h1)] at this
      exact this
  · rintro h1 ⟨e, I⟩
    subst e
    exact X12_book_58 ⟨o168 K, fun _ => k0 I, fun w => absurd (by rw [hN]; exact (nI_leI (by omega) (by omega)).mpr (Nat.le_refl _)) w⟩
/-- the reference writes the polynomial down -/
theorem m_bput {Nn : Nat} (K : sp h) (h200 : Nn < 200) (hN : ah_f h 168 62 = nI Nn) (k : ∀ h', fr [215] h h' → (∀ i, i < 601 * Nn → ah_l h' 215 i = ah_l h 215 i) → (∀ i, i < 601 → ah_l h' 215 (601 * Nn + i) = ah_l h 185 i) → Q (some (.int (nI (Nn + 1)))) (mNo (ah_sf h' 168 62 (nI (Nn + 1))) (nI 0))) : ex_G mX12_book (d + 6) 109 [.ref 168, .retAddr 0, .retAddr 0, .retAddr 0, .retAddr 0, .int (nI 0)] [] h bc bs Q := by
  have lit : ∀ i : Nat, (601 : Int32) * nI Nn + nI i = nI (601 * Nn + i) := fun i => by
    have : (601 : Int32) * nI Nn = nI (601 * Nn) := pk_mul 601 Nn
    rw [this, nI_add]
  refine lp 601 (fun j h' => fr [215] h h' ∧ (∀ i, i < 601 * Nn → ah_l h' 215 i = ah_l h 215 i) ∧ ∀ i, i < j → ah_l h' 215 (601 * Nn + i) = ah_l h 185 i) (fun j h' => ex_G mX12_book (d + 6) 109 [.ref 168, .retAddr 0, .retAddr 0, .retAddr 0, .retAddr 0, .int (nI j)] [] h' bc bs Q) ⟨fr_refl _ h, fun _ _ => rfl, fun i hi => absurd hi (Nat.not_lt_zero i)⟩ ?_ ?_
  · rintro j h1 hj ⟨F1, I1, I2⟩ nx
    have K1 := sp_fr K F1
    have c1 : (601 : Int32) ≤ nI j ↔ 601 ≤ j := nI_leI (a := 601) (by omega) (by omega)
    have e1 : nI j + 1 = nI (j + 1) := nI_add _ 1
    have N1 : ah_f h1 168 62 = nI Nn := by rw [fr_f F1 168 (by decide)]; exact hN
    refine X12_book_109 ⟨fun w => by have := c1.mp w; omega, fun _ => ⟨o168 K1, 215, r168_64 K1, 185, r168_20 K1, (s185 K1 _).mpr ((ix_nI (by omega)).mpr hj), ?_⟩⟩
    rw [N1, lit, nI_clamp (show 601 * Nn + j < 2 ^ 31 by omega), nI_clamp (show j < 2 ^ 31 by omega)]
    refine ⟨(s215 K1 _).mpr ((ix_nI (by omega)).mpr (by omega)), fun h10 e10 x12 e12 => ?_⟩
    rw [e12, e1]
    refine nx h10 ⟨by rw [e10]; exact fr_sl F1 (by decide), fun i hi => ?_, fun i hi => ?_⟩
    · rw [e10, l_sl_s, u1_n _ _ (by omega)]; exact I1 i hi
    · rw [e10, l_sl_s]
      by_cases z : i = j
      · rw [z, u1_s, fr_l F1 185 (by decide)]
      · rw [u1_n _ _ (by omega)]; exact I2 i (by omega)
  · rintro h1 ⟨F1, I1, I2⟩
    have K1 := sp_fr K F1
    have N1 : ah_f h1 168 62 = nI Nn := by rw [fr_f F1 168 (by decide)]; exact hN
    have e1 : nI Nn + 1 = nI (Nn + 1) := nI_add _ 1
    refine X12_book_109 ⟨fun _ => ⟨o168 K1, fun h3 e3 => ?_⟩, fun w => absurd (show (601 : Int32) ≤ nI 601 by decide) w⟩
    rw [N1, e1] at e3
    have K3 : sp h3 := by rw [e3]; exact sp_fr (L := [168]) K1 (fr_sf (fr_refl _ h1) (by decide))
    have N3 : ah_f h3 168 62 = nI (Nn + 1) := by rw [e3, f_sf_s, u1_s]
    rw [N3]
    refine ⟨weC K3 _, fun h5 e5 => ?_⟩
    rw [e5, weH, e3]
    exact k h1 F1 I1 I2
theorem st_book (x : R0 h W N B S len) (hmax : ah_n h + 3 ≤ 10000000) (p : Int32) (v : Int64) : ST yX11_book mX11_book yX12_book mX12_book (d + 19) (d + 6) [.int p, .long v] h (bc + 3) (bs + 565) W S len := by
  have K := x.2.1
  obtain ⟨h24, hN, hN2, hP⟩ := x.2.2.2.2.1
  obtain ⟨w, w6, hw, hw2⟩ := x.2.2.2.2.2.2.2.2.1
  obtain ⟨Nn, b200, b1, b2, b3, b4⟩ := x.2.2.2.2.2.2.2.2.2
  have hv := hasP (p := p) hN h24
  -- refused without a finding
  have ref : ∀ f : Nat, f = 2 ∨ f = 3 → (f = 2 → ¬ ix p N ∨ v = 0) → (f = 3 → ix p N ∧ v ≠ 0 ∧ Nn = 200) → ex_S yX12_book mX12_book (d + 6) [.ref 168, .int p, .long v] (cNo h (-nI f)) 0 0 (fun r' h2 => r' = some (.int (-nI f)) ∧ DONE h h2 W S len) := fun f hf f2 f3 => by
    have Kc := (R1_cNo x.2 (fcs_refl h) (-nI f)).1
    have q6 : ah_f (cNo h (-nI f)) 168 = ah_f h 168 := by unfold cNo; rw [f_sf_n _ _ _ _ _ (by decide)]
    have iv := isP_ (p := p) (show ah_f (cNo h (-nI f)) 168 6 = nI N by rw [q6]; exact hN2) h24
    have fin : DONE h (mNo (cNo h (-nI f)) (-nI f)) W S len := D_no x (fcs_refl h) (-nI f) (fms_refl _)
    refine X12_book_e (X12_book_0 ⟨o168 Kc, isPC Kc p, fun z => ⟨noC Kc _, fun h5 e5 => ?_⟩, fun z => ⟨fun z2 => ⟨fun z3 => ?_, fun z3 => ⟨noC Kc _, fun h5 e5 => ?_⟩⟩, fun z2 => ⟨noC Kc _, fun h5 e5 => ?_⟩⟩⟩)
    · rcases hf with e | e
      · subst e; exact ⟨rfl, by rw [e5]; exact fin⟩
      · exact absurd (f3 e).1 (iv.mp z)
    · have c2 : nI Nn = (200 : Int32) ↔ Nn = 200 := nI_eq (b := 200) (by omega) (by omega)
      rw [q6, b2, c2] at z3
      rcases hf with e | e
      · rcases f2 e with q | q
        · exact absurd (iv.mpr q) z
        · exact absurd ((lgc0 _ _).mpr q) z2
      · exact absurd (f3 e).2.2 z3
    · rcases hf with e | e
      · rcases f2 e with q | q
        · exact absurd (iv.mpr q) z
        · exact absurd ((lgc0 _ _).mpr q) z2
      · subst e; exact ⟨rfl, by rw [e5]; exact fin⟩
    · rcases hf with e | e
      · subst e; exact ⟨rfl, by rw [e5]; exact fin⟩
      · exact absurd ((lgc0 _ _).mp z2) (f3 e).2.1
  have c200 : nI Nn < (200 : Int32) ↔ Nn < 200 := nI_ltI (b := 200) (by omega) (by omega)
  refine X11_book_e (X11_book_0 ⟨o0 K, hasPC K p, fun z => c_no K 2 (by decide) ⟨_, rfl, _, rfl, ref 2 (Or.inl rfl) (fun _ => Or.inl (hv.mp z)) (fun e => absurd e (by decide))⟩, fun z => ⟨fun zv => ⟨164, r0_13 K, o164 K, ?_⟩, fun zv => c_no K 2 (by decide) ⟨_, rfl, _, rfl, ref 2 (Or.inl rfl) (fun _ => Or.inr ((lgc0 _ _).mp zv)) (fun e => absurd e (by decide))⟩⟩⟩)
  have ip : ix p N := Classical.not_not.mp (fun w => z (hv.mpr w))
  have v0 : v ≠ 0 := fun q => zv ((lgc0 _ _).mpr q)
  rw [b1, c200]
  refine ⟨fun lt => ?_, fun ge => c_no K 3 (by decide) ⟨_, rfl, _, rfl, ref 3 (Or.inr rfl) (fun e => absurd e (by decide)) (fun _ => ⟨ip, v0, by omega⟩)⟩⟩
  obtain ⟨p0, hp0, ep⟩ := ix_of ip (by omega)
  subst ep
  -- the reference comes to spends
  have toS : ∀ hc, sp hc → ah_f hc 168 6 = nI N → ah_f hc 168 62 = nI Nn → ∀ Q : Option Value → AH → Prop, ex_S yX12_spends mX12_spends (d + 5) [.ref 168, .int (nI p0), .int 10] hc 0 0 (fun r h8 => ∃ x9, r = some (.int x9) ∧ ((0 ≤ x9 → ex_G mX12_book (d + 6) 58 [.ref 168, .int (nI p0), .long v, .retAddr 0, .retAddr 0, .int 0] [] h8 0 0 Q) ∧ (¬ 0 ≤ x9 → Q (some (.int x9)) h8))) → ex_S yX12_book mX12_book (d + 6) [.ref 168, .int (nI p0), .long v] hc 0 0 Q := fun hc Kc q6 q62 Q k => by
    have iv := isP_ (p := nI p0) q6 h24
    have c2 : nI Nn = (200 : Int32) ↔ Nn = 200 := nI_eq (b := 200) (by omega) (by omega)
    refine X12_book_e (X12_book_0 ⟨o168 Kc, isPC Kc _, fun w => absurd ip (iv.mp w), fun _ => ⟨fun _ => ⟨fun _ => k, fun w => ?_⟩, fun w => absurd w zv⟩⟩)
    rw [q62, c2] at w
    omega
  refine c_why (d := d + 13) (lim := 10) x.2 hp0 (by decide) hw w6 (fun h1 n op F => ⟨_, rfl, fun w => absurd w (by decide), fun _ => ?_⟩) (fun h1 n l f wh F rf => ⟨_, rfl, ?_⟩) (fun h1 n l wh F l1 l2 LFh ne le lw => ⟨_, rfl, fun _ => ?_, fun w => absurd rfl w⟩)
  · have Fc := fcs_fr F lkc7
    have Rf := R1_cF x.2 Fc 3
    obtain ⟨-, hn, h40, r, pl, r0, O⟩ := op
    refine ⟨o0 (sp_fr K F), c_f (sp_fr K F) 3 (by decide) (by decide) ⟨_, rfl, _, rfl, ?_⟩⟩
    refine toS _ Rf.1 (by rw [cF_168 Fc]; exact hN2) (by rw [cF_168 Fc]; exact b2) _ (m_spends_open (lim := 10) Rf (kc_f Fc 3) hp0 hn h40 O r0 (fun h3 G3 => ⟨_, rfl, fun w => absurd w (by decide), fun _ => ⟨rfl, ?_⟩⟩))
    exact D_f x Fc (by decide) (by decide) G3
  · have Fc := fcs_fr F lkc7
    have Rf := R1_cF x.2 Fc f
    have f3 := RF_f rf
    have nz : ¬ (-nI (10 + f) = (0 : Int32)) ∧ ¬ (0 : Int32) ≤ -nI (10 + f) := by
      rcases f3 with e | e | e
      · subst e; decide
      · subst e; decide
      · subst e; decide
    refine ⟨fun w => absurd w nz.1, fun _ => ⟨o0 (sp_fr K F), c_f (sp_fr K F) f (by omega) (by omega) ⟨_, rfl, _, rfl, ?_⟩⟩⟩
    refine toS _ Rf.1 (by rw [cF_168 Fc]; exact hN2) (by rw [cF_168 Fc]; exact b2) _ (m_spends (lim := 10) (w := w) Rf.1 (by rw [cF_168 Fc]; exact hN2) h24 wh (cF_sl Fc f p0) (by decide) (by rw [cF_168 Fc]; exact hw2) w6 (fun h3 f' G3 F3 rf' => ⟨_, rfl, fun w => ?_, fun _ => ?_⟩) (fun h3 G3 F3 ne le lw => (RF_no rf ne le lw).elim))
    · rw [← RF_u rf rf'] at w
      exact absurd w nz.2
    · rw [← RF_u rf rf']
      exact ⟨rfl, D_f x Fc (by omega) (by omega) G3⟩
  · have K1 := sp_fr K F
    have Fc := fcs_fr F lkc7
    have l165 : ah_l h1 165 = ah_l h 165 := fr_l F 165 (by decide)
    refine ⟨o0 K1, 164, r0_13 K1, o164 K1, c_bhas (Nn := Nn) K1 b200 (by rw [fr_f F 164 (by decide)]; exact b1) (fun yes => ⟨_, rfl, fun w => absurd w (by decide), fun _ => ⟨o0 K1, c_f K1 5 (by decide) (by decide) ⟨_, rfl, _, rfl, ?_⟩⟩⟩) (fun no => ⟨_, rfl, fun _ => ?_, fun w => absurd rfl w⟩)⟩
    · have Rf := R1_cF x.2 Fc 5
      refine toS _ Rf.1 (by rw [cF_168 Fc]; exact hN2) (by rw [cF_168 Fc]; exact b2) _ (m_spends (lim := 10) (w := w) Rf.1 (by rw [cF_168 Fc]; exact hN2) h24 wh (cF_sl Fc 5 p0) (by decide) (by rw [cF_168 Fc]; exact hw2) w6 (fun h3 f' G3 F3 rf' => (RF_no rf' ne le lw).elim) (fun h3 G3 F3 _ _ _ => ⟨_, rfl, fun _ => ?_, fun w => absurd (show (0 : Int32) ≤ nI 0 by decide) w⟩))
      have K3 := G3.2.2.1 Rf.1
      have l3 : ah_l h3 214 = ah_l h 214 := by
        rw [(G3.2.1 214 (by decide)).2.2.2.1]
        unfold cF
        rw [l_si, l_sf]
        exact fr_l F 214 (by decide)
      refine m_bhas (Nn := Nn) K3 b200 (by rw [G3.2.2.2.1 62 (by decide), cF_168 Fc]; exact b2) (fun _ => ⟨rfl, D_f x Fc (by decide) (by decide) G3⟩) (fun no => ?_)
      obtain ⟨k, hk, q⟩ := yes
      refine absurd ?_ (no k hk)
      rw [l3, ← b3 k hk, ← l165]
      exact q
    · have hb : hb3 76 := Or.inr (Or.inl rfl)
      have C1 := LAC_q x.2.2.1 F.1.2.2.1 F.1.2.2.2
      obtain ⟨xr, yr, e, r0, r1⟩ := LA_ex C1 hb
      have wh' := wh
      obtain ⟨-, hn, h40, h9, ⟨pl, O⟩, C, M, R⟩ := wh
      have le14 : n ≤ 14 := by omega
      obtain ⟨wv, v1, v2, ev⟩ := wr_i n (mt n (AN (ah_i h (B p0 + 2)))) n
      have S0 := sup140_lev (T := TY n l (mt n (AN (ah_i h (B p0 + 2))))) (wv := wv) le14 h9 (by omega) (by omega)
      refine ⟨o0 K1, 32, r0_7 K1, 7, r0_4 K1, 76, r0_9 K1, o32 K1, c_makePolynomial (d := d) (l := l) (w := w) (wv := wv) K1 hb (Or.inl rfl) R le14 h9 l1 l2 LFh.1 C1.2.1 (by rw [fr_f F 32 (by decide)]; exact hw) (LA_any e r0 r1) (LFh.2.2.2.2.2.2.2.2.trans ev) (by omega) (by omega) (fun h6 x6 y6 F6 L6 m6 w6' => ⟨rfl, ?_⟩)⟩
      have K6 := sp_fB K1 hb F6
      have n6 : ah_n h6 = ah_n h := by rw [F6.1, F.1.1]
      have e6 : ∀ a, a ∉ Cscr → a ≠ 32 → a ≠ 73 → a ≠ 74 → a ≠ 75 → eqc h h6 a := fun a a0 a1 a2 a3 a4 => eqc_trans (eqc_fr F (fun q => a0 (lkc7 a q))) (eqc_fB F6 (fun q => by
        rcases smb_C a q with e | e
        · exact a1 e
        · exact a0 e) (fun q => a0 (by rw [q]; decide)) (fun q => a0 (by rw [q]; decide)) (fun q => a0 (by rw [q]; decide)))
      have e73 : ∀ a, a = 73 ∨ a = 74 ∨ a = 75 → eqc h h6 a := fun a ha => eqc_trans (eqc_fr F (fun q => by have := (by decide : ∀ a, a ∈ lkc 7 → a < 73) a q; omega)) (eqc_fB F6 (fun q => by have := (by decide : ∀ a, a ∈ smb → a < 73) a q; omega) (by omega) (by omega) (by omega))
      refine ⟨o0 K6, 164, r0_13 K6, 76, r0_9 K6, o164 K6, c_bkadd (d := d + 16) (Nn := Nn) K6 lt (by rw [(e6 164 (by decide) (by decide) (by decide) (by decide) (by decide)).2.1]; exact b1) L6 m6 (by omega) (fun h21 ba K21 => ⟨rfl, ?_⟩)⟩
      obtain ⟨n21, q21, f21, g165, g166, o21, t21, r21, l21⟩ := ba
      rw [n6] at n21 q21 g166 o21 t21 r21 l21
      refine ⟨o0 K21, 164, r0_13 K21, o164 K21, ?_⟩
      rw [f21]
      refine ⟨grC K21 _, fun h34 e34 => ⟨_, rfl, ?_⟩⟩
      rw [grV]
      have e34' : h34 = cNo h21 (nI 0) := e34
      clear e34
      have h216 := K.1
      have Kc : sp h34 := by rw [e34']; exact sp_fr (L := [0]) K21 (fr_sf (fr_refl _ h21) (by decide))
      have c0 : ∀ a, a ≠ 0 → eqc h21 h34 a := fun a ha => by rw [e34']; exact ⟨by rw [k_cNo], by unfold cNo; rw [f_sf_n _ _ _ _ _ ha], by rw [i_cNo], by unfold cNo; rw [l_sf], by rw [r_cNo], by unfold cNo; rw [q_sf]⟩
      have f0c : ah_f h34 0 = u1 (ah_f h 0) 19 (nI 0) := by
        rw [e34']
        unfold cNo
        rw [f_sf_s, (q21 0 (by omega) (by omega) (by omega) (by decide) (by decide) (by decide)).2.1, (e6 0 (by decide) (by decide) (by decide) (by decide) (by decide)).2.1]
      have nc : ah_n h34 = ah_n h + 3 := by rw [e34', n_cNo, n21]
      have rc : ah_r h34 = ah_r h21 := by rw [e34', r_cNo]
      have qc : ah_q h34 = ah_q h21 := by rw [e34']; unfold cNo; rw [q_sf]
      clear e34'
      -- cells that are as they were
      have Ec : ∀ a, (a < ah_n h ∨ 10000000 ≤ a) → a ≠ 0 → a ∉ Cscr → a ≠ 32 → a ≠ 164 → a ≠ 165 → a ≠ 166 → eqc h h34 a := fun a ha a0 ac a3 a4 a5 a6 => by
        have m : eqc h h6 a := by
          by_cases z : a = 73 ∨ a = 74 ∨ a = 75
          · exact e73 a z
          · exact e6 a ac a3 (by omega) (by omega) (by omega)
        exact eqc_trans m (eqc_trans (q21 a (by omega) (by omega) (by omega) a4 a5 a6) (c0 a a0))
      have w34 : ah_f h34 32 3 = nI (w + 2 ^ n) := by rw [(c0 32 (by decide)).2.1, (q21 32 (by omega) (by omega) (by omega) (by decide) (by decide) (by decide)).2.1]; exact w6'
      have fc : ah_f h34 168 = ah_f h 168 := (Ec 168 (by omega) (by decide) (by decide) (by decide) (by decide) (by decide) (by decide)).2.1
      have ic : ∀ a, a = 170 ∨ a = 171 ∨ a = 172 ∨ a = 173 → ah_i h34 a = ah_i h a := fun a ha => (Ec a (by omega) (by omega) (fun q => by have := (by decide : ∀ a, a ∈ Cscr → a < 125) a q; omega) (by omega) (by omega) (by omega) (by omega)).2.2.1
      have slh : ∀ s, sl h h34 s := fun s => sl_of s (ic 170 (by omega)) (ic 171 (by omega)) (ic 172 (by omega)) (ic 173 (by omega))
      have Cc : LAC h34 := by
        have C6 := LAC_fB hb F6 L6 C1
        obtain ⟨d1, d2, g, d3, d4⟩ := C6
        have rb : ∀ b, b = 73 ∨ b = 76 ∨ b = 79 → ah_r h34 b = ah_r h6 b := fun b hb' => by rw [rc, (q21 b (by omega) (by omega) (by omega) (by omega) (by omega) (by omega)).2.2.2.2.1]
        have qb : ∀ b, b = 34 ∨ b = 84 → ah_q h34 b = ah_q h6 b := fun b hb' => by rw [qc, (q21 b (by omega) (by omega) (by omega) (by omega) (by omega) (by omega)).2.2.2.2.2]
        exact ⟨fun b hb' => by rw [rb b hb']; exact d1 b hb', by rw [qb 34 (by omega)]; exact d2, g, by rw [qb 84 (by omega)]; exact d3, d4⟩
      have l165c : ah_l h34 165 = u1 (ah_l h 165) Nn v := by rw [(c0 165 (by decide)).2.2.2.1, g165, (e6 165 (by decide) (by decide) (by decide) (by decide) (by decide)).2.2.2.1]
      have q166c : ah_q h34 166 = u1 (ah_q h 166) Nn (some (ah_n h)) := by rw [qc, g166, (e6 166 (by decide) (by decide) (by decide) (by decide) (by decide)).2.2.2.2.2]
      have f164c : ah_f h34 164 2 = nI (Nn + 1) := by rw [(c0 164 (by decide)).2.1]; exact f21
      have no' : ∀ k, k < Nn → ah_l h 214 k ≠ v := fun k hk => by rw [← b3 k hk, ← l165]; exact no k hk
      -- the reference
      refine toS _ Kc (by rw [fc]; exact hN2) (by rw [fc]; exact b2) _ (m_spends (lim := 10) (w := w) Kc (by rw [fc]; exact hN2) h24 wh' (slh p0) (by decide) (by rw [fc]; exact hw2) w6 (fun h3 f' G3 F3 rf' => (RF_no rf' ne le lw).elim) (fun h3 G3 F3 _ _ _ => ⟨_, rfl, fun _ => ?_, fun w => absurd (show (0 : Int32) ≤ nI 0 by decide) w⟩))
      have K3 := G3.2.2.1 Kc
      have M3 := mD_sl (mD_sl M h40 (slh p0)) h40 (G3.2.2.2.2 p0 (by omega))
      have l3 : ah_l h3 214 = ah_l h 214 := by rw [(G3.2.1 214 (by decide)).2.2.2.1, (Ec 214 (by omega) (by decide) (by decide) (by decide) (by decide) (by decide) (by decide)).2.2.2.1]
      refine m_bhas (Nn := Nn) K3 b200 (by rw [G3.2.2.2.1 62 (by decide), fc]; exact b2) (fun ⟨k, hk, q⟩ => absurd (by rw [← l3]; exact q) (no' k hk)) (fun _ => ?_)
      refine m_polynomialOf (d := d + 2) (w := w) (wv := wv) K3 R (by omega) M3 le14 h9 (by rw [G3.2.2.2.1 23 (by decide), fc]; exact hw2) ev (by omega) (by omega) (fun h5 F5 f5 L5 => ⟨rfl, ?_⟩)
      have K5 := sp_fr K3 F5
      have F5' : fr mlL h3 h5 := fr_mono F5 (by decide)
      have n5 : ah_f h5 168 62 = nI Nn := by rw [f5, u1_n _ _ (by decide), G3.2.2.2.1 62 (by decide), fc]; exact b2
      refine ⟨o168 K5, 214, r168_63 K5, by rw [n5]; exact (s214 K5 _).mpr ((ix_nI (by omega)).mpr lt), fun h7 e7 => ?_⟩
      rw [n5, nI_clamp (by omega)] at e7
      have F7 : fr [214] h5 h7 := by rw [e7]; exact fr_sl (fr_refl _ h5) (by decide)
      have g7 : ah_l h7 214 = u1 (ah_l h5 214) Nn v := by rw [e7, l_sl_s]
      clear e7
      have K7 := sp_fr K5 F7
      refine m_bput (Nn := Nn) K7 lt (by rw [fr_f F7 168 (by decide)]; exact n5) (fun h8 F8 I1 I2 => ⟨rfl, ?_⟩)
      have key : ∀ hz, hz = mNo (ah_sf h8 168 62 (nI (Nn + 1))) (nI 0) → DONE h hz W S len := by
        intro hz ez
        have Fz : fr [168] h8 hz := by rw [ez]; unfold mNo; exact fr_sf (fr_sf (fr_refl _ h8) (by decide)) (by decide)
        have fz : ah_f hz 168 = u1 (u1 (ah_f h8 168) 62 (nI (Nn + 1))) 0 (nI 0) := by rw [ez]; unfold mNo; rw [f_sf_s, f_sf_s]
        clear ez
        have Kz := sp_fr (sp_fr K7 F8) Fz
        have mlM : ∀ a, a ∈ mlL → a ∈ Mscr := by decide
        have eall : ∀ a, a ∉ Mscr → a ≠ 214 → a ≠ 215 → eqc h34 hz a := fun a a1 a2 a3 => eqc_trans (G3.2.1 a a1) (eqc_trans (eqc_fr F5' (fun q => a1 (mlM a q))) (eqc_trans (eqc_fr F7 (by simp only [List.mem_cons, List.not_mem_nil, or_false]; omega)) (eqc_trans (eqc_fr F8 (by simp only [List.mem_cons, List.not_mem_nil, or_false]; omega)) (eqc_fr Fz (fun q => a1 ((by decide : ∀ a, a ∈ [168] → a ∈ Mscr) a q))))))
        have E : ∀ a, (a < ah_n h ∨ 10000000 ≤ a) → a ≠ 0 → a ∉ Cscr → a ≠ 32 → a ≠ 164 → a ≠ 165 → a ≠ 166 → a ∉ Mscr → a ≠ 214 → a ≠ 215 → eqc h hz a := fun a ha a0 ac a3 a4 a5 a6 am a7 a8 => eqc_trans (Ec a ha a0 ac a3 a4 a5 a6) (eall a am a7 a8)
        have nw : ∀ a, 216 ≤ a → eqc h34 hz a := fun a ha => eall a (mscr_no ha) (by omega) (by omega)
        have f8 : ah_f h8 168 = ah_f h5 168 := by rw [fr_f F8 168 (by decide), fr_f F7 168 (by decide)]
        have kz : ∀ k, k ≠ 0 → k ≠ 9 → k ≠ 23 → k ≠ 62 → ah_f hz 168 k = ah_f h 168 k := fun k k0 k9 k23 k62 => by
          rw [fz, u1_n _ _ k0, u1_n _ _ k62, f8, f5, u1_n _ _ k23, G3.2.2.2.1 k k9, fc]
        have f0z : ah_f hz 0 = u1 (ah_f h 0) 19 (nI 0) := by rw [(eall 0 (by decide) (by decide) (by decide)).2.1, f0c]
        have L' : LAC hz := LAC_q Cc (by rw [Fz.1.2.2.1, F8.1.2.2.1, F7.1.2.2.1, F5.1.2.2.1, F3.1.2.2.1]) (by rw [Fz.1.2.2.2, F8.1.2.2.2, F7.1.2.2.2, F5.1.2.2.2, F3.1.2.2.2])
        have sz : ∀ s, s < 364 → sl h hz s := fun s hs => sl_trans (slh s) (sl_trans (G3.2.2.2.2 s hs) (sl_of s (by rw [fr_i Fz 170 (by decide), fr_i F8 170 (by decide), fr_i F7 170 (by decide), fr_i F5 170 (by decide)]) (by rw [fr_i Fz 171 (by decide), fr_i F8 171 (by decide), fr_i F7 171 (by decide), fr_i F5 171 (by decide)]) (by rw [fr_i Fz 172 (by decide), fr_i F8 172 (by decide), fr_i F7 172 (by decide), fr_i F5 172 (by decide)]) (by rw [fr_i Fz 173 (by decide), fr_i F8 173 (by decide), fr_i F7 173 (by decide), fr_i F5 173 (by decide)])))
        have y := x.1
        obtain ⟨⟨x5, x6, x7⟩, x8, x9, x10⟩ := x.2.2.2.2.2.2
        have nz : ah_n hz = ah_n h + 3 := by rw [Fz.1.1, F8.1.1, F7.1.1, F5.1.1, G3.1, nc]
        have e_ : ∀ a, a = 3 ∨ a = 4 ∨ a = 5 ∨ a = 6 ∨ a = 73 ∨ a = 74 ∨ a = 75 ∨ a = 167 ∨ a = 169 ∨ a = 186 ∨ a = 191 ∨ a = 198 → eqc h hz a := fun a ha => E a (by omega) (by omega) (fun q => by have := (by decide +kernel : ∀ a, a ∈ Cscr → 6 < a ∧ a < 125 ∧ a ≠ 73 ∧ a ≠ 74 ∧ a ≠ 75) a q; omega) (by omega) (by omega) (by omega) (by omega) (fun q => by have := (by decide : ∀ a, a ∈ Mscr → 167 < a ∧ a ≠ 169 ∧ a ≠ 186 ∧ a ≠ 191 ∧ a ≠ 198) a q; omega) (by omega) (by omega)
        have z214 : ah_l hz 214 = u1 (ah_l h 214) Nn v := by rw [fr_l Fz 214 (by decide), fr_l F8 214 (by decide), g7, fr_l F5 214 (by decide), l3]
        have z165 : ah_l hz 165 = u1 (ah_l h 165) Nn v := by rw [(eall 165 (by decide) (by decide) (by decide)).2.2.2.1, l165c]
        have z215 : ∀ i, ah_l h7 215 i = ah_l h 215 i := fun i => by rw [fr_l F7 215 (by decide), fr_l F5 215 (by decide), (G3.2.1 215 (by decide)).2.2.2.1, (Ec 215 (by omega) (by decide) (by decide) (by decide) (by decide) (by decide) (by decide)).2.2.2.1]
        have z185 : ∀ i, i < 601 → ah_l h7 185 i = Int64.ofInt (lev wv (brk (TY n l (mt n (AN (ah_i h (B p0 + 2))))) n (2 * n + l)) ((i : Int) - 300)) := fun i hi => by rw [fr_l F7 185 (by decide)]; exact L5 i hi
        have hW : ∀ a, a < ah_n h → (fun a => if ah_n h ≤ a then 200 + Nn else W a) a = W a := fun a ha => if_neg (by omega)
        refine D_anyN (W' := fun a => if ah_n h ≤ a then 200 + Nn else W a) x hW Kz L' (by omega) (by omega) (fun a ha a1 a2 a3 => E a ha ?_ a1 ?_ ?_ ?_ ?_ a2 ?_ ?_) (fun k _ _ k19 => by rw [f0z, u1_n _ _ k19]) (fun k k0 k9 _ _ k23 _ _ _ k62 => kz k k0 k9 k23 k62) (FC_of y ?_ ?_ ?_ ?_ ?_ ?_ ?_) sz (NU_eq x5 (e_ 3 (by omega)).2.1 (kz 29 (by decide) (by decide) (by decide) (by decide)) (e_ 4 (by omega)).2.2.1 (e_ 191 (by omega)).2.2.1) (NU_eq x6 (e_ 5 (by omega)).2.1 (kz 38 (by decide) (by decide) (by decide) (by decide)) (e_ 6 (by omega)).2.2.1 (e_ 198 (by omega)).2.2.1) (RS_eq x8 (e_ 73 (by omega)) (kz 22 (by decide) (by decide) (by decide) (by decide)) (e_ 74 (by omega)).2.2.2.1 (e_ 75 (by omega)).2.2.2.1 (e_ 186 (by omega)).2.2.2.1) ⟨w + 2 ^ n, lw, ?_, ?_⟩ ⟨Nn + 1, by omega, ?_, ?_, fun k hk => ?_, fun k hk => ?_⟩
        · intro q; subst q; exact a3 (by decide)
        · intro q; subst q; exact a3 (by decide)
        · intro q; subst q; exact a3 (by decide)
        · intro q; subst q; exact a3 (by decide)
        · intro q; subst q; exact a3 (by decide)
        · intro q; subst q; exact a3 (by decide)
        · intro q; subst q; exact a3 (by decide)
        · rw [f0z, u1_s, fz, u1_s]
        · rw [f0z, u1_n _ _ (by decide)]
        · rw [f0z, u1_n _ _ (by decide)]
        · exact kz 15 (by decide) (by decide) (by decide) (by decide)
        · exact kz 60 (by decide) (by decide) (by decide) (by decide)
        · exact (e_ 167 (by omega)).2.2.1
        · exact (e_ 169 (by omega)).2.2.1
        · rw [(eall 32 (by decide) (by decide) (by decide)).2.1]; exact w34
        · rw [fz, u1_n _ _ (by decide), u1_n _ _ (by decide), f8, f5, u1_s]
        · rw [(eall 164 (by decide) (by decide) (by decide)).2.1]; exact f164c
        · rw [fz, u1_n _ _ (by decide), u1_s]
        · rw [z165, z214]
          by_cases q : k = Nn
          · rw [q, u1_s, u1_s]
          · rw [u1_n _ _ q, u1_n _ _ q]; exact b3 k (by omega)
        · have l215 : ∀ i, ah_l hz 215 i = ah_l h8 215 i := fun i => by rw [fr_l Fz 215 (by decide)]
          have q166 : ah_q hz 166 = u1 (ah_q h 166) Nn (some (ah_n h)) := by rw [(eall 166 (by decide) (by decide) (by decide)).2.2.2.2.2, q166c]
          by_cases q : k = Nn
          · subst q
            have c1 := eqc_trans (c0 (ah_n h) (by omega)) (nw (ah_n h) h216)
            have c2 := eqc_trans (c0 (ah_n h + 1) (by omega)) (nw (ah_n h + 1) (by omega))
            refine ⟨ah_n h, by rw [q166, u1_s], h216, hmax, ah_o_eq o21 c1 (by omega), ah_x_eq t21 c2 (by omega), if_pos (Nat.le_refl _), if_pos (by omega), by rw [c1.2.2.2.2.1]; exact r21, fun j hj => ?_, fun j hj zz => ?_⟩
            · rw [c2.2.2.2.1, l21 j hj, L6.2.2.2 j hj, l215, Nat.add_assoc, I2 _ (by omega), z185 _ (by omega), show ((j + 160 : Nat) : Int) - 300 = (j : Int) - 140 by omega]
            · rw [l215, I2 j hj, z185 j hj, S0 _ (by omega)]; rfl
          · obtain ⟨a, q1, q2, q3, q4, q5, q6, q7, q8, q9, q10⟩ := b4 k (by omega)
            have aN : a + 1 < ah_n h := q5.1
            have ea : ∀ t, t = a ∨ t = a + 1 → eqc h hz t := fun t ht => E t (Or.inl (by omega)) (by omega) (cscr_no (by omega)) (by omega) (by omega) (by omega) (by omega) (mscr_no (by omega)) (by omega) (by omega)
            have ea0 := ea a (Or.inl rfl)
            have ea1 := ea (a + 1) (Or.inr rfl)
            refine ⟨a, by rw [q166, u1_n _ _ q]; exact q1, q2, q3, ah_o_eq q4 ea0 (by omega), ah_x_eq q5 ea1 (by omega), (hW a (by omega)).trans q6, (hW (a + 1) aN).trans q7, by rw [ea0.2.2.2.2.1]; exact q8, fun j hj => ?_, fun j hj zz => ?_⟩
            · have kl : 601 * k + j + 160 < 601 * Nn := by have : 601 * (k + 1) ≤ 601 * Nn := Nat.mul_le_mul_left _ (by omega); omega
              rw [ea1.2.2.2.1, l215, I1 _ kl, z215]
              exact q9 j hj
            · have kl : 601 * k + j < 601 * Nn := by have : 601 * (k + 1) ≤ 601 * Nn := Nat.mul_le_mul_left _ (by omega); omega
              rw [l215, I1 _ kl, z215]
              exact q10 j hj zz
      exact key _ rfl
end BOOK
