/-! The reference makes a bracket. -/
def ml (h : AH) (a : Nat) (P : Int → Int) : Prop := ∀ k : Nat, k < 601 → ah_l h a k = Int64.ofInt (P ((k : Int) - 300))
theorem shl1 {n : Nat} (h14 : n ≤ 14) : (1 : Int32) <<< (nI n &&& (31 : Int32)) = nI (2 ^ n) := (by decide : ∀ n, n < 15 → (1 : Int32) <<< (nI n &&& (31 : Int32)) = nI (2 ^ n)) n (by omega)
section MBRK
variable {h : AH} {d bc bs : Nat} {Q : Option Value → AH → Prop}
theorem m_times {D : Int → Int} (K : sp h) (L : ml h 189 D) (S : ∀ k, k < -290 ∨ 290 < k → D k = 0) (k : ∀ h', fr [189, 190] h h' → ml h' 189 (dl D) → Q none h') : ex_S yX12_timesCircle mX12_timesCircle d [.ref 168] h bc bs Q := by
  refine X12_timesCircle_e (X12_timesCircle_0 ?_)
  refine lp 601 (fun j h' => fr [189, 190] h h' ∧ (∀ i, i < j → ah_l h' 190 i = ah_l h 189 i ∧ ah_l h' 189 i = 0) ∧ ∀ i, j ≤ i → ah_l h' 189 i = ah_l h 189 i) (fun j h' => ex_G mX12_timesCircle d 2 [.ref 168, .int (nI j)] [] h' bc bs Q) ⟨fr_refl _ h, fun i hi => absurd hi (Nat.not_lt_zero i), fun i _ => rfl⟩ ?_ ?_
  · rintro j h1 hj ⟨F1, I1, I2⟩ nx
    have K1 := sp_fr K F1
    have c1 : (601 : Int32) ≤ nI j ↔ 601 ≤ j := nI_leI (a := 601) (by omega) (by omega)
    have e1 : nI j + 1 = nI (j + 1) := nI_add _ 1
    have ij : ix (nI j) 601 := (ix_nI (by omega)).mpr hj
    refine X12_timesCircle_2 ⟨fun w => by have := c1.mp w; omega, fun _ => ⟨o168 K1, 190, r168_27 K1, 189, r168_26 K1, (s189 K1 _).mpr ij, (s190 K1 _).mpr ij, fun h6 e6 h8 e8 x9 e9 => ?_⟩⟩
    rw [nI_clamp (by omega)] at e6 e8
    rw [e9, e1]
    have g0 : ah_l h8 190 = u1 (ah_l h1 190) j (ah_l h1 189 j) := by rw [e8, l_sl_n _ _ _ _ _ (by decide), e6, l_sl_s]
    have g9 : ah_l h8 189 = u1 (ah_l h1 189) j 0 := by rw [e8, l_sl_s, e6, l_sl_n _ _ _ _ _ (by decide)]
    refine nx h8 ⟨by rw [e8, e6]; exact fr_sl (fr_sl F1 (by decide)) (by decide), fun i hi => ?_, fun i hi => ?_⟩
    · rw [g0, g9]
      by_cases z : i = j
      · rw [z, u1_s, u1_s]; exact ⟨I2 j (Nat.le_refl _), rfl⟩
      · rw [u1_n _ _ z, u1_n _ _ z]; exact I1 i (by omega)
    · rw [g9, u1_n _ _ (by omega)]; exact I2 i (by omega)
  rintro h1 ⟨F1, I1, -⟩
  refine X12_timesCircle_2 ⟨fun _ => ?_, fun w => absurd (show (601 : Int32) ≤ nI 601 by decide) w⟩
  refine lpf 2 599 (fun j h' => fr [189, 190] h h' ∧ ah_l h' 190 = ah_l h1 190 ∧ ∀ i : Nat, i < 601 → ah_l h' 189 i = Int64.ofInt ((if 4 ≤ i ∧ i < j + 2 then - D ((i : Int) - 2 - 300) else 0) + (if i + 2 < j then - D ((i : Int) + 2 - 300) else 0))) (fun j h' => ex_G mX12_timesCircle d 36 [.ref 168, .int (nI j)] [] h' bc bs Q) (by decide) ⟨F1, rfl, fun i hi => ?_⟩ ?_ ?_
  · rw [(I1 i hi).2, if_neg (by omega), if_neg (by omega)]; rfl
  · rintro j h2 j2 hj ⟨F2, s2_, I2⟩ nx
    have K2 := sp_fr K F2
    have c1 : (599 : Int32) ≤ nI j ↔ 599 ≤ j := nI_leI (a := 599) (by omega) (by omega)
    have e1 : nI j + 1 = nI (j + 1) := nI_add _ 1
    have e2 : nI j + 2 = nI (j + 2) := nI_add _ 2
    have e3 : nI j - 2 = nI (j - 2) := pk_sub (b := 2) (by omega)
    have sp_j : ∀ h', ah_l h' 190 = ah_l h1 190 → ah_l h' 190 j = Int64.ofInt (D ((j : Int) - 300)) := fun h' q => by rw [q, (I1 j (by omega)).1]; exact L j (by omega)
    refine X12_timesCircle_36 ⟨fun w => by have := c1.mp w; omega, fun _ => ⟨o168 K2, 189, r168_26 K2, ?_⟩⟩
    rw [e2, e3, nI_clamp (show j + 2 < 2 ^ 31 by omega), nI_clamp (show j < 2 ^ 31 by omega), nI_clamp (show j - 2 < 2 ^ 31 by omega)]
    refine ⟨(s189 K2 _).mpr ((ix_nI (by omega)).mpr (by omega)), 190, r168_27 K2, (s190 K2 _).mpr ((ix_nI (by omega)).mpr (by omega)), fun h7 e7 => ?_⟩
    rw [sp_j h2 s2_] at e7
    have F7 : fr [189, 190] h h7 := by rw [e7]; exact fr_sl F2 (by decide)
    have s7 : ah_l h7 190 = ah_l h1 190 := by rw [e7, l_sl_n _ _ _ _ _ (by decide)]; exact s2_
    have g7 : ah_l h7 189 = u1 (ah_l h2 189) (j + 2) (ah_l h2 189 (j + 2) - Int64.ofInt (D ((j : Int) - 300))) := by rw [e7, l_sl_s]
    have K7 := sp_fr K F7
    rw [sp_j h7 s7]
    refine ⟨(s189 K7 _).mpr ((ix_nI (by omega)).mpr (by omega)), fun h9 e9 x10 e10 => ?_⟩
    rw [e10, e1]
    refine nx h9 ⟨by rw [e9]; exact fr_sl F7 (by decide), by rw [e9, l_sl_n _ _ _ _ _ (by decide)]; exact s7, fun i hi => ?_⟩
    rw [e9, l_sl_s, g7]
    by_cases z1 : i = j - 2
    · rw [z1, u1_s, u1_n _ _ (by omega), I2 _ (by omega), ← Int64.ofInt_sub]
      congr 1
      rw [if_neg (show ¬ j - 2 + 2 < j by omega), if_pos (show j - 2 + 2 < j + 1 by omega)]
      have e : ((j - 2 : Nat) : Int) + 2 - 300 = (j : Int) - 300 := by omega
      rw [e]
      by_cases q : 4 ≤ j - 2 ∧ j - 2 < j + 2
      · rw [if_pos q, if_pos (by omega)]; omega
      · rw [if_neg q, if_neg (by omega)]; omega
    · rw [u1_n _ _ z1]
      by_cases z2 : i = j + 2
      · rw [z2, u1_s, I2 _ (by omega), ← Int64.ofInt_sub]
        congr 1
        rw [if_neg (show ¬ (4 ≤ j + 2 ∧ j + 2 < j + 2) by omega), if_pos (show 4 ≤ j + 2 ∧ j + 2 < j + 1 + 2 by omega), if_neg (show ¬ j + 2 + 2 < j by omega), if_neg (show ¬ j + 2 + 2 < j + 1 by omega)]
        have e : ((j + 2 : Nat) : Int) - 2 - 300 = (j : Int) - 300 := by omega
        rw [e]
        omega
      · rw [u1_n _ _ z2, I2 _ hi]
        congr 1
        congr 1
        · by_cases q : 4 ≤ i ∧ i < j + 2
          · rw [if_pos q, if_pos (by omega)]
          · rw [if_neg q, if_neg (by omega)]
        · by_cases q : i + 2 < j
          · rw [if_pos q, if_pos (by omega)]
          · rw [if_neg q, if_neg (by omega)]
  · rintro h2 ⟨F2, -, I2⟩
    refine X12_timesCircle_36 ⟨fun _ => k h2 F2 (fun i hi => ?_), fun w => absurd (show (599 : Int32) ≤ nI 599 by decide) w⟩
    rw [I2 i hi]
    congr 1
    have a1 : (if 4 ≤ i ∧ i < 599 + 2 then - D ((i : Int) - 2 - 300) else 0) = - D ((i : Int) - 300 - 2) := by
      by_cases q : 4 ≤ i ∧ i < 599 + 2
      · rw [if_pos q, show (i : Int) - 2 - 300 = (i : Int) - 300 - 2 by omega]
      · rw [if_neg q, S _ (by omega)]; rfl
    have a2 : (if i + 2 < 599 then - D ((i : Int) + 2 - 300) else 0) = - D ((i : Int) - 300 + 2) := by
      by_cases q : i + 2 < 599
      · rw [if_pos q, show (i : Int) + 2 - 300 = (i : Int) - 300 + 2 by omega]
      · rw [if_neg q, S _ (by omega)]; rfl
    rw [a1, a2]
    unfold dl
    omega
def bl : List Nat := [178, 185, 187, 188, 189, 190]
/-- ways: how many smoothings there are of each kind -/
theorem m_bways {s n l : Nat} {A m : Nat → Nat} (K : sp h) (P : Pr n A m) (hs : s < 368) (hn : ah_i h 170 s = nI n) (hl : ah_i h 171 s = nI l) (h14 : n ≤ 14) (h9 : l ≤ 9) (hm : ∀ e, e < 4 * n → ah_i h 176 e = nI (m e))
    (k : ∀ h' M, fr bl h h' → M ≤ 2 * n + l → (∀ u, u < 2 ^ n → cy n m u + l ≤ M) → (∀ c s', c ≤ 37 → s' < 30 → ah_l h' 188 (30 * c + s') = Int64.ofInt (TY n l m c s' : Int)) → ex_G mX12_bracketOf (d + 1) 140 [.ref 168, .int (nI s), .int (nI M), .int (nI 0), .retAddr 0, .retAddr 0, .retAddr 0, .retAddr 0, .retAddr 0] [] h' bc bs Q) : ex_G mX12_bracketOf (d + 1) 24 [.ref 168, .int (nI s), .int (nI 0), .retAddr 0, .retAddr 0, .retAddr 0, .retAddr 0, .retAddr 0, .retAddr 0] [] h bc bs Q := by
  have p14 : 2 ^ n ≤ 2 ^ 14 := Nat.pow_le_pow_right (by decide) h14
  refine lp 1800 (fun j h' => fr bl h h' ∧ ∀ i, i < j → ah_l h' 188 i = 0) (fun j h' => ex_G mX12_bracketOf (d + 1) 24 [.ref 168, .int (nI s), .int (nI j), .retAddr 0, .retAddr 0, .retAddr 0, .retAddr 0, .retAddr 0, .retAddr 0] [] h' bc bs Q) ⟨fr_refl _ h, fun i hi => absurd hi (Nat.not_lt_zero i)⟩ ?_ ?_
  · rintro j h1 hj ⟨F1, I⟩ nx
    have K1 := sp_fr K F1
    have c1 : (1800 : Int32) ≤ nI j ↔ 1800 ≤ j := nI_leI (a := 1800) (by omega) (by omega)
    have e1 : nI j + 1 = nI (j + 1) := nI_add _ 1
    refine X12_bracketOf_24 ⟨fun w => by have := c1.mp w; omega, fun _ => ⟨o168 K1, 188, r168_25 K1, (s188 K1 _).mpr ((ix_nI (by omega)).mpr hj), fun h4 e4 x6 e6 => ?_⟩⟩
    rw [nI_clamp (by omega)] at e4
    rw [e6, e1]
    refine nx h4 ⟨by rw [e4]; exact fr_sl F1 (by decide), fun i hi => ?_⟩
    rw [e4, l_sl_s]
    by_cases z : i = j
    · rw [z, u1_s]
    · rw [u1_n _ _ z]; exact I i (by omega)
  rintro h1 ⟨F1, I1⟩
  refine X12_bracketOf_24 ⟨fun _ => ?_, fun w => absurd (show (1800 : Int32) ≤ nI 1800 by decide) w⟩
  refine lp (σ := AH × Nat) (2 ^ n) (fun w z => fr bl h z.1 ∧ z.2 ≤ 2 * n + l ∧ (∀ u, u < w → cy n m u + l ≤ z.2) ∧ ∀ c s', c ≤ 37 → s' < 30 → ah_l z.1 188 (30 * c + s') = Int64.ofInt (Tn (fun w => cy n m w + l) (on n) w c s' : Int)) (fun w z => ex_G mX12_bracketOf (d + 1) 48 [.ref 168, .int (nI s), .int (nI z.2), .int (nI w), .retAddr 0, .retAddr 0, .retAddr 0, .retAddr 0, .retAddr 0] [] z.1 bc bs Q) (s := (h1, 0)) ⟨F1, Nat.zero_le _, fun u hu => absurd hu (Nat.not_lt_zero u), fun c s' hc hs' => by
    show ah_l h1 188 (30 * c + s') = _
    rw [I1 _ (by omega)]
    rfl⟩ ?_ ?_
  · rintro w ⟨h2, M⟩ hw ⟨F2, hM, hc2, I2⟩ nx
    have F2 : fr bl h h2 := F2
    have hM : M ≤ 2 * n + l := hM
    have K2 := sp_fr K F2
    have n2 : ∀ h', fr bl h h' → ah_i h' 170 s = nI n := fun h' F' => by rw [fr_i F' 170 (by decide)]; exact hn
    have on14 : on n w ≤ n := by have := zr_on n w; omega
    refine X12_bracketOf_48 ⟨o168 K2, 170, r168_2 K2, (s170 K2 _).mpr ((ix_nI (by omega)).mpr (by omega)), ?_⟩
    rw [nI_clamp (show s < 2 ^ 31 by omega), n2 h2 F2, shl1 h14, nI_leI (by omega) (by omega)]
    refine ⟨fun q => by omega, fun _ => ?_⟩
    refine lp n (fun c h' => h' = h2) (fun c h' => ex_G mX12_bracketOf (d + 1) 66 [.ref 168, .int (nI s), .int (nI M), .int (nI w), .int (nI (ct (fun i => bt w i = 1) c)), .int (nI c), .retAddr 0, .retAddr 0, .retAddr 0] [] h' bc bs Q) rfl ?_ ?_
    · rintro c h3 hc rfl nx2
      have st := nx2 h3 rfl
      have e1 : nI c + 1 = nI (c + 1) := nI_add _ 1
      refine X12_bracketOf_66 ⟨o168 K2, 170, r168_2 K2, (s170 K2 _).mpr ((ix_nI (by omega)).mpr (by omega)), ?_⟩
      rw [nI_clamp (show s < 2 ^ 31 by omega), n2 h3 F2, nI_leI (by omega) (by omega), bitI (by omega) (by omega)]
      refine ⟨fun q => by omega, fun _ x14 e14 x15 e15 => ?_⟩
      rw [e15, e1]
      have b2 := bt_2 w c
      by_cases q : bt w c = 1
      · rw [ct_y (p := fun i => bt w i = 1) q] at st
        rw [q, nI_add] at e14
        rw [e14]
        exact st
      · rw [ct_n (p := fun i => bt w i = 1) q] at st
        rw [show bt w c = 0 by omega, nI_add, Nat.add_zero] at e14
        rw [e14]
        exact st
    · rintro h3 rfl
      have le := cy_le (w := w) P
      refine X12_bracketOf_66 ⟨o168 K2, 170, r168_2 K2, (s170 K2 _).mpr ((ix_nI (by omega)).mpr (by omega)), ?_⟩
      rw [nI_clamp (show s < 2 ^ 31 by omega), n2 h3 F2, nI_leI (by omega) (by omega)]
      refine ⟨fun _ => ?_, fun q => absurd (Nat.le_refl _) q⟩
      refine m_circles K2 P hs (n2 h3 F2) (by rw [fr_i F2 171 (by decide)]; exact hl) h14 (fun e he => by rw [fr_i F2 176 (by decide)]; exact hm e he) (by omega) (fun h5 F5 => ⟨_, rfl, ?_⟩)
      have F5' : fr bl h h5 := fr_trans F2 (fr_mono F5 (by decide))
      have K5 := sp_fr K F5'
      have eon : ct (fun i => bt w i = 1) n = on n w := rfl
      have e30 : (30 : Int32) * nI (cy n m w + l) + nI (on n w) = nI (30 * (cy n m w + l) + on n w) := by
        have : (30 : Int32) * nI (cy n m w + l) = nI (30 * (cy n m w + l)) := pk_mul 30 _
        rw [this, nI_add]
      have e1 : nI w + 1 = nI (w + 1) := nI_add _ 1
      rw [eon, e30, nI_clamp (by omega)]
      refine ⟨o168 K5, 188, r168_25 K5, (s188 K5 _).mpr ((ix_nI (by omega)).mpr (by omega)), fun h10 e10 => ?_⟩
      have F10 : fr bl h h10 := by rw [e10]; exact fr_sl F5' (by decide)
      have I10 : ∀ c s', c ≤ 37 → s' < 30 → ah_l h10 188 (30 * c + s') = Int64.ofInt (Tn (fun w => cy n m w + l) (on n) (w + 1) c s' : Int) := fun c s' hc hs' => by
        have old : ah_l h5 188 (30 * c + s') = Int64.ofInt (Tn (fun w => cy n m w + l) (on n) w c s' : Int) := by rw [fr_l F5 188 (by decide)]; exact I2 c s' hc hs'
        rw [e10, l_sl_s]
        unfold Tn
        by_cases q : cy n m w + l = c ∧ on n w = s'
        · rw [ct_y (p := fun w => cy n m w + l = c ∧ on n w = s') q, show 30 * c + s' = 30 * (cy n m w + l) + on n w by omega, u1_s, show 30 * (cy n m w + l) + on n w = 30 * c + s' by omega, old, Int.natCast_add, Int64.ofInt_add]
          rfl
        · rw [ct_n (p := fun w => cy n m w + l = c ∧ on n w = s') q, u1_n _ _ (fun z => q (by omega))]
          exact old
      rw [nI_leI (by omega) (by omega), e1]
      refine ⟨fun q x12 e12 => ?_, fun q x13 e13 => ?_⟩
      · rw [e12]
        refine nx (h10, M) ⟨F10, hM, fun u hu => ?_, I10⟩
        by_cases z : u = w
        · rw [z]; exact q
        · exact hc2 u (by omega)
      · rw [e13]
        refine nx (h10, cy n m w + l) ⟨F10, by show cy n m w + l ≤ 2 * n + l; omega, fun u hu => ?_, I10⟩
        show cy n m u + l ≤ cy n m w + l
        by_cases z : u = w
        · rw [z]; exact Nat.le_refl _
        · have : cy n m u + l ≤ M := hc2 u (by omega)
          omega
  · rintro ⟨h2, M⟩ ⟨F2, hM, hc2, I2⟩
    have F2 : fr bl h h2 := F2
    have hM : M ≤ 2 * n + l := hM
    have K2 := sp_fr K F2
    refine X12_bracketOf_48 ⟨o168 K2, 170, r168_2 K2, (s170 K2 _).mpr ((ix_nI (by omega)).mpr (by omega)), ?_⟩
    have n2 : ah_i h2 170 s = nI n := by rw [fr_i F2 170 (by decide)]; exact hn
    rw [nI_clamp (show s < 2 ^ 31 by omega), n2, shl1 h14, nI_leI (by omega) (by omega)]
    exact ⟨fun _ => k h2 M F2 hM hc2 I2, fun q => absurd (Nat.le_refl _) q⟩
end MBRK
