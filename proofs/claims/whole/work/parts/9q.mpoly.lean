/-! The reference makes a polynomial, and shows it. -/
section MPOLY
variable {h : AH} {d bc bs : Nat} {Q : Option Value → AH → Prop}
theorem m_polynomialOf {s n l w : Nat} {A m : Nat → Nat} {wv : Int} (K : sp h) (P : Pr n A m) (hs : s < 368) (M0 : mD h s n l A) (h14 : n ≤ 14) (h9 : l ≤ 9) (hw : ah_f h 168 23 = nI w) (hv : wr n m n = iI wv) (v1 : -14 ≤ wv) (v2 : wv ≤ 14)
    (k : ∀ h', fr [168, 176, 178, 179, 181, 182, 185, 187, 188, 189, 190] h h' → ah_f h' 168 = u1 (ah_f h 168) 23 (nI (w + 2 ^ n)) → ml h' 185 (lev wv (brk (TY n l m) n (2 * n + l))) → Q none h') : ex_S yX12_polynomialOf mX12_polynomialOf (d + 3) [.ref 168, .int (nI s)] h bc bs Q := by
  refine X12_polynomialOf_e (X12_polynomialOf_0 ⟨o168 K, m_link K hs M0.1 (by omega) M0.2.2.2 P (fun h1 F1 g1 => ⟨rfl, ?_⟩)⟩)
  have K1 := sp_fr K F1
  refine ⟨o168 K1, m_writheOf (d := d) K1 hs (by rw [fr_i F1 170 (by decide)]; exact M0.1) (by omega) g1 P (fun h3 F3 _ => ⟨_, rfl, ?_⟩)⟩
  have K3 := sp_fr K1 F3
  have G3 : fr [168, 176, 178, 179, 181, 182, 185, 187, 188, 189, 190] h h3 := fr_trans (fr_mono F1 (by decide)) (fr_mono F3 (by decide))
  have f3 : ah_f h3 168 = ah_f h 168 := by rw [fr_f F3 168 (by decide), fr_f F1 168 (by decide)]
  have M3 : mD h3 s n l A := ⟨by rw [fr_i G3 170 (by decide)]; exact M0.1, by rw [fr_i G3 171 (by decide)]; exact M0.2.1, fun c hc => by rw [fr_i G3 172 (by decide)]; exact M0.2.2.1 c hc, fun e he => by rw [fr_i G3 173 (by decide)]; exact M0.2.2.2 e he⟩
  refine ⟨o168 K3, m_bracketOf (d := d + 1) K3 P hs M3 h14 h9 (by rw [f3]; exact hw) (fun h6 F6 f6 _ L6 => ⟨rfl, ?_⟩)⟩
  have G6 : fr [168, 176, 178, 179, 181, 182, 185, 187, 188, 189, 190] h h6 := fr_trans G3 (fr_mono F6 (by decide))
  have K6 := sp_fr K G6
  rw [f3] at f6
  rw [hv]
  clear F6 M3 G3 K3 F3 F1 g1 K1 f3
  have S6 : sup140 (brk (TY n l m) n (2 * n + l)) := sup140_brk h14 (by omega)
  generalize brk (TY n l m) n (2 * n + l) = B at L6 S6 k
  refine lp 601 (fun j h' => fr [185, 190] h6 h' ∧ (∀ i, i < j → ah_l h' 190 i = ah_l h6 185 i ∧ ah_l h' 185 i = 0) ∧ ∀ i, j ≤ i → ah_l h' 185 i = ah_l h6 185 i) (fun j h' => ex_G mX12_polynomialOf (d + 3) 18 [.ref 168, .retAddr 0, .int (iI wv), .int (nI j)] [] h' bc bs Q) ⟨fr_refl _ h6, fun i hi => absurd hi (Nat.not_lt_zero i), fun i _ => rfl⟩ ?_ ?_
  · rintro j h1 hj ⟨F1, I1, I2⟩ nx
    have K1 := sp_fr K6 F1
    have c1 : (601 : Int32) ≤ nI j ↔ 601 ≤ j := nI_leI (a := 601) (by omega) (by omega)
    have e1 : nI j + 1 = nI (j + 1) := nI_add _ 1
    have ij : ix (nI j) 601 := (ix_nI (by omega)).mpr hj
    refine X12_polynomialOf_18 ⟨fun w => by have := c1.mp w; omega, fun _ => ⟨o168 K1, 190, r168_27 K1, 185, r168_20 K1, (s185 K1 _).mpr ij, (s190 K1 _).mpr ij, fun h7 e7 h8 e8 x9 e9 => ?_⟩⟩
    rw [nI_clamp (by omega)] at e7 e8
    rw [e9, e1]
    have g0 : ah_l h8 190 = u1 (ah_l h1 190) j (ah_l h1 185 j) := by rw [e8, l_sl_n _ _ _ _ _ (by decide), e7, l_sl_s]
    have g9 : ah_l h8 185 = u1 (ah_l h1 185) j 0 := by rw [e8, l_sl_s, e7, l_sl_n _ _ _ _ _ (by decide)]
    refine nx h8 ⟨by rw [e8, e7]; exact fr_sl (fr_sl F1 (by decide)) (by decide), fun i hi => ?_, fun i hi => ?_⟩
    · rw [g0, g9]
      by_cases z : i = j
      · rw [z, u1_s, u1_s]; exact ⟨I2 j (Nat.le_refl _), rfl⟩
      · rw [u1_n _ _ z, u1_n _ _ z]; exact I1 i (by omega)
    · rw [g9, u1_n _ _ (by omega)]; exact I2 i (by omega)
  rintro h1 ⟨F1, I1, -⟩
  refine X12_polynomialOf_18 ⟨fun _ => ?_, fun w => absurd (show (601 : Int32) ≤ nI 601 by decide) w⟩
  have w3 : (3 : Int32) * iI wv = iI (3 * wv) := iI_mul 3 wv
  refine lp 601 (fun j h' => fr [185, 190] h6 h' ∧ ah_l h' 190 = ah_l h1 190 ∧ ∀ i : Nat, i < 601 → ah_l h' 185 i = Int64.ofInt (if (i : Int) + 3 * wv < j then lev wv B ((i : Int) - 300) else 0)) (fun j h' => ex_G mX12_polynomialOf (d + 3) 52 [.ref 168, .retAddr 0, .int (iI wv), .int (nI j)] [] h' bc bs Q) ⟨F1, rfl, fun i hi => ?_⟩ ?_ ?_
  · rw [(I1 i hi).2]
    by_cases q : (i : Int) + 3 * wv < ((0 : Nat) : Int)
    · rw [if_pos q]
      unfold lev
      rw [S6 _ (by omega), Int.mul_zero]
      rfl
    · rw [if_neg q]
      rfl
  · rintro j h2 hj ⟨F2, s2_, I2⟩ nx
    have K2 := sp_fr K6 F2
    have c1 : (601 : Int32) ≤ nI j ↔ 601 ≤ j := nI_leI (a := 601) (by omega) (by omega)
    have e1 : nI j + 1 = nI (j + 1) := nI_add _ 1
    have sj_ : ah_l h2 190 j = Int64.ofInt (B ((j : Int) - 300)) := by rw [s2_, (I1 j hj).1]; exact L6 j hj
    refine X12_polynomialOf_52 ⟨fun w => by have := c1.mp w; omega, fun _ => ⟨o168 K2, 190, r168_27 K2, (s190 K2 _).mpr ((ix_nI (by omega)).mpr hj), ?_⟩⟩
    rw [nI_clamp (show j < 2 ^ 31 by omega), sj_, e1]
    refine ⟨fun z x6 e6 => ?_, fun z => ?_⟩
    · have z0 := (lgc0 _ _).mp z
      rw [e6]
      refine nx h2 ⟨F2, s2_, fun i hi => ?_⟩
      rw [I2 i hi]
      by_cases q : (i : Int) + 3 * wv = j
      · rw [if_neg (by omega), if_pos (by omega)]
        unfold lev
        rw [show (i : Int) - 300 + 3 * wv = (j : Int) - 300 by omega, Int64.ofInt_mul, z0, Int64.mul_zero]
        rfl
      · by_cases q2 : (i : Int) + 3 * wv < j
        · rw [if_pos q2, if_pos (by omega)]
        · rw [if_neg q2, if_neg (by omega)]
    · have dz : B ((j : Int) - 300) ≠ 0 := fun q => z ((lgc0 _ _).mpr (by rw [q]; rfl))
      have rg : -140 ≤ (j : Int) - 300 ∧ (j : Int) - 300 ≤ 140 := by
        by_cases q : (j : Int) - 300 < -140 ∨ 140 < (j : Int) - 300
        · exact absurd (S6 _ q) dz
        · omega
      obtain ⟨i0, q1, q2⟩ := iI_nat (a := (j : Int) - 3 * wv) (by omega)
      have ej : nI j - (3 : Int32) * iI wv = nI i0 := by rw [w3, ← iI_n j, iI_sub, q2]
      have fin : ∀ (hz : AH) (v : Int64), hz = ah_sl h2 185 i0 v → v = Int64.ofInt (lev wv B ((i0 : Int) - 300)) → ex_G mX12_polynomialOf (d + 3) 52 [.ref 168, .retAddr 0, .int (iI wv), .int (nI (j + 1))] [] hz bc bs Q := fun hz v ez hv => by
        refine nx hz ⟨by rw [ez]; exact fr_sl F2 (by decide), by rw [ez, l_sl_n _ _ _ _ _ (by decide)]; exact s2_, fun i hi => ?_⟩
        rw [ez, l_sl_s]
        by_cases w : i = i0
        · rw [w, u1_s, if_pos (by omega)]; exact hv
        · rw [u1_n _ _ w, I2 i hi]
          by_cases q2 : (i : Int) + 3 * wv < j
          · rw [if_pos q2, if_pos (by omega)]
          · rw [if_neg q2, if_neg (by omega)]
      have lv : lev wv B ((i0 : Int) - 300) = (if wv % 2 = 1 then -1 else 1) * B ((j : Int) - 300) := by
        unfold lev
        rw [show (i0 : Int) - 300 + 3 * wv = (j : Int) - 300 by omega]
      refine ⟨185, r168_20 K2, ?_⟩
      rw [ej, nI_clamp (by omega)]
      refine ⟨fun o => ⟨(s185 K2 _).mpr ((ix_nI (by omega)).mpr (by omega)), fun hz ez x11 e11 => ?_⟩, fun o => ⟨(s185 K2 _).mpr ((ix_nI (by omega)).mpr (by omega)), fun hz ez x11 e11 => ?_⟩⟩
      · have od : wv % 2 = 1 := Classical.not_not.mp (fun q => o ((odd14 v1 v2).2.mpr q))
        rw [e11]
        exact fin hz _ ez (by rw [lv, if_pos od, ← Int64.ofInt_neg]; congr 1; omega)
      · have od : ¬ wv % 2 = 1 := (odd14 v1 v2).2.mp o
        rw [e11]
        exact fin hz _ ez (by rw [lv, if_neg od, Int.one_mul])
  · rintro h2 ⟨F2, -, I2⟩
    refine X12_polynomialOf_52 ⟨fun _ => k h2 (fr_trans G6 (fr_mono F2 (by decide))) (by rw [fr_f F2 168 (by decide)]; exact f6) (fun i hi => ?_), fun w => absurd (show (601 : Int32) ≤ nI 601 by decide) w⟩
    rw [I2 i hi]
    by_cases q : (i : Int) + 3 * wv < ((601 : Nat) : Int)
    · rw [if_pos q]
    · rw [if_neg q]
      unfold lev
      rw [S6 _ (by omega), Int.mul_zero]
theorem m_shown (K : sp h) (k : ∀ h', fr [186] h h' → (∀ i, i < 601 → ah_l h' 186 i = ah_l h 185 i) → Q (some (.int (nI (ct (fun i => ah_l h 185 i ≠ 0) 601)))) (mNo (ah_sf h' 168 22 (nI 1)) (nI 0))) : ex_S yX12_shown mX12_shown (d + 1) [.ref 168] h bc bs Q := by
  refine X12_shown_e (X12_shown_0 ?_)
  refine lp 601 (fun j h' => fr [186] h h' ∧ ∀ i, i < j → ah_l h' 186 i = ah_l h 185 i) (fun j h' => ex_G mX12_shown (d + 1) 4 [.ref 168, .int (nI (ct (fun i => ah_l h 185 i ≠ 0) j)), .int (nI j)] [] h' bc bs Q) ⟨fr_refl _ h, fun i hi => absurd hi (Nat.not_lt_zero i)⟩ ?_ ?_
  · rintro j h1 hj ⟨F1, I1⟩ nx
    have K1 := sp_fr K F1
    have c1 : (601 : Int32) ≤ nI j ↔ 601 ≤ j := nI_leI (a := 601) (by omega) (by omega)
    have e1 : nI j + 1 = nI (j + 1) := nI_add _ 1
    have ij : ix (nI j) 601 := (ix_nI (by omega)).mpr hj
    refine X12_shown_4 ⟨fun w => by have := c1.mp w; omega, fun _ => ⟨o168 K1, 186, r168_21 K1, 185, r168_20 K1, (s185 K1 _).mpr ij, (s186 K1 _).mpr ij, fun h10 e10 => ?_⟩⟩
    rw [nI_clamp (by omega), fr_l F1 185 (by decide)] at e10
    have g5 : ah_l h10 185 j = ah_l h 185 j := by rw [e10, l_sl_n _ _ _ _ _ (by decide), fr_l F1 185 (by decide)]
    have I10 : fr [186] h h10 ∧ ∀ i, i < j + 1 → ah_l h10 186 i = ah_l h 185 i := ⟨by rw [e10]; exact fr_sl F1 (by decide), fun i hi => by
      rw [e10, l_sl_s]
      by_cases z : i = j
      · rw [z, u1_s]
      · rw [u1_n _ _ z]; exact I1 i (by omega)⟩
    have st := nx h10 I10
    rw [nI_clamp (by omega), g5, e1]
    refine ⟨fun w x13 e13 x14 e14 => ?_, fun w x15 e15 x16 e16 => ?_⟩
    · have z := (lgc0 _ _).mp w
      rw [ct_n (p := fun i => ah_l h 185 i ≠ 0) (fun q => q z)] at st
      have e13' : x13 = nI (ct (fun i => ah_l h 185 i ≠ 0) j) := by rw [e13]; exact nI_add _ 0
      rw [e13', e14]
      exact st
    · have z : ah_l h 185 j ≠ 0 := fun q => w ((lgc0 _ _).mpr q)
      rw [ct_y (p := fun i => ah_l h 185 i ≠ 0) z] at st
      have e15' : x15 = nI (ct (fun i => ah_l h 185 i ≠ 0) j + 1) := by rw [e15]; exact nI_add _ 1
      rw [e15', e16]
      exact st
  · rintro h1 ⟨F1, I1⟩
    have K1 := sp_fr K F1
    refine X12_shown_4 ⟨fun _ => ⟨o168 K1, fun h3 e3 => ?_⟩, fun w => absurd (show (601 : Int32) ≤ nI 601 by decide) w⟩
    have K3 : sp h3 := by rw [e3]; exact sp_fr (L := [168]) K1 (fr_sf (fr_refl _ h1) (by decide))
    refine ⟨weC K3 _, fun h5 e5 => ?_⟩
    rw [e5, weH, e3]
    exact k h1 F1 I1
end MPOLY
