/-! Gauss rows: the reference. -/
def PR (T : Nat → Int32) (L : Nat) : Prop := MK T L ∧ ∀ i, i < L - 1 → ps T i → tv T i < 160 ∧ ∀ i', i' < i → ps T i' → tv T i' / 2 ≠ tv T i / 2
/-- the cell in which strand w is booked -/
def sw (w : Nat) : Nat := if w % 2 = 0 then 192 else 193
theorem sw_192 {w : Nat} (h : w % 2 = 0) : sw w = 192 := if_pos h
theorem sw_193 {w : Nat} (h : ¬ w % 2 = 0) : sw w = 193 := if_neg h
/-- the books at k -/
def BO (T : Nat → Int32) (k : Nat) (h : AH) : Prop := (∀ i, i < k → ps T i → ah_i h (sw (tv T i / 2)) (tv T i / 4) = nI (2 * np T i + tv T i % 2)) ∧ (∀ w, w < 80 → (∀ i, i < k → ps T i → tv T i / 2 ≠ w) → ah_i h (sw w) (w / 2) = m1) ∧ ∀ j, j < np T k → j ≠ fs T k → ah_i h 194 j = nI (cb T k j)
section MG
variable {h : AH} {d bc bs L : Nat} {Q : Option Value → AH → Prop}
theorem m_passes {T : Nat → Int32} (K : sp h) (hL : ah_f h 168 29 = nI L) (h130 : L ≤ 130) (eT : ∀ i, i < L → ah_i h 191 i = T i) (k1 : PR T L → ∀ h', fr [192, 193, 194] h h' → BO T (L - 1) h' → Q (some (.int (nI (np T (L - 1))))) h') (k0 : ¬ PR T L → ∀ h', fr [192, 193, 194] h h' → Q (some (.int (-1))) h') : ex_S yX12_passes mX12_passes (d + 1) [.ref 168] h bc bs Q := by
  refine X12_passes_e (X12_passes_0 ⟨o168 K, fun x2 e2 => ?_⟩)
  rw [hL] at e2
  by_cases z : L = 0
  · have e : x2 = -1 := by rw [e2, z]; decide
    refine ⟨fun _ => k0 (fun q => by have := q.1.1; omega) h (fr_refl _ h), fun w => absurd ?_ w⟩
    rw [e]
    decide
  have e : x2 = nI (L - 1) := by rw [e2]; exact nI_m1 (by omega)
  clear e2
  subst e
  refine ⟨fun w => absurd w ?_, fun _ => ⟨191, r168_28 K, (s191 K _).mpr ((ix_nI (by omega)).mpr (by omega)), ?_⟩⟩
  · exact fun q => by
      have := (nI_ltI (b := 0) (by omega) (by omega)).mp q
      omega
  rw [nI_clamp (by omega), eT _ (by omega), in_rg (-11) (-2) (by decide) (by decide)]
  refine ⟨fun w => k0 (fun q => w q.1.2.1) h (fr_refl _ h), fun w => ?_⟩
  have rg : -11 ≤ (T (L - 1)).toInt ∧ (T (L - 1)).toInt ≤ -2 := Classical.not_not.mp w
  have c0 : nI (L - 1) ≤ 0 ↔ L - 1 ≤ 0 := nI_leI (b := 0) (by omega) (by omega)
  have go : fs T (L - 1) = np T (L - 1) → ex_G mX12_passes (d + 1) 50 [.ref 168, .int (nI (L - 1)), .int (nI 0), .retAddr 0, .retAddr 0, .retAddr 0] [] h bc bs Q := by
    intro hfs
    refine lp 40 (fun c h' => fr [192, 193, 194] h h' ∧ ∀ c', c' < c → ah_i h' 192 c' = m1 ∧ ah_i h' 193 c' = m1) (fun c h' => ex_G mX12_passes (d + 1) 50 [.ref 168, .int (nI (L - 1)), .int (nI c), .retAddr 0, .retAddr 0, .retAddr 0] [] h' bc bs Q) ⟨fr_refl _ h, fun i hi => absurd hi (Nat.not_lt_zero i)⟩ ?_ ?_
    · rintro c h1 hc ⟨F, I⟩ nx
      have K1 := sp_fr K F
      have c40 : (40 : Int32) ≤ nI c ↔ 40 ≤ c := nI_leI (a := 40) (by omega) (by omega)
      refine X12_passes_50 ⟨fun w => by have := c40.mp w; omega, fun _ => ⟨o168 K1, 192, r168_30 K1, (t192 K1 _).mpr ((ix_nI (by omega)).mpr (by omega)), fun h4 e4 => ?_⟩⟩
      rw [nI_clamp (by omega)] at e4
      have F4 : fr [192, 193, 194] h h4 := by rw [e4]; exact fr_si F (by decide)
      have K4 := sp_fr K F4
      refine ⟨193, r168_31 K4, (t193 K4 _).mpr ((ix_nI (by omega)).mpr (by omega)), fun h7 e7 x9 e9 => ?_⟩
      rw [nI_clamp (by omega)] at e7
      have F7 : fr [192, 193, 194] h h7 := by rw [e7]; exact fr_si F4 (by decide)
      have g : x9 = nI (c + 1) := by rw [e9]; exact nI_add _ 1
      rw [g]
      have i2 : ah_i h7 192 = u1 (ah_i h1 192) c m1 := by rw [e7, i_si_n _ _ _ _ _ (by decide), e4, i_si_s]; rfl
      have i3 : ah_i h7 193 = u1 (ah_i h1 193) c m1 := by rw [e7, i_si_s, e4, i_si_n _ _ _ _ _ (by decide)]; rfl
      refine nx h7 ⟨F7, fun c' hc' => ?_⟩
      rw [i2, i3]
      by_cases q : c' = c
      · rw [q, u1_s, u1_s]; exact ⟨rfl, rfl⟩
      · rw [u1_n _ _ q, u1_n _ _ q]; exact I c' (by omega)
    · rintro h1 ⟨F, I⟩
      refine X12_passes_50 ⟨fun _ => ?_, fun w => absurd (show (40 : Int32) ≤ nI 40 by decide) w⟩
      refine lp (L - 1) (fun k h' => fr [192, 193, 194] h h' ∧ BO T k h' ∧ (∀ i, i < k → ps T i ∨ (T i = m1 ∧ fs T i < np T i)) ∧ ∀ i, i < k → ps T i → tv T i < 160 ∧ ∀ i', i' < i → ps T i' → tv T i' / 2 ≠ tv T i / 2) (fun k h' => ex_G mX12_passes (d + 1) 83 [.ref 168, .int (nI (L - 1)), .int (nI (np T k)), .int (nI (fs T k)), .int (nI k), .retAddr 0] [] h' bc bs Q) ⟨F, ⟨fun i hi => absurd hi (Nat.not_lt_zero i), fun w hw _ => ?_, fun j hj => absurd hj (Nat.not_lt_zero j)⟩, fun i hi => absurd hi (Nat.not_lt_zero i), fun i hi => absurd hi (Nat.not_lt_zero i)⟩ ?_ ?_
      · unfold sw
        split
        · exact (I (w / 2) (by omega)).1
        · exact (I (w / 2) (by omega)).2
      · rintro k h2 hk ⟨F2, ⟨B1, B2, B3⟩, I1, I2⟩ nx
        have K2 := sp_fr K F2
        have fl := fs_le T k
        have nl := np_le T k
        obtain ⟨m1_, m2_, m3_, m4_⟩ := i32_m (T k)
        refine X12_passes_83 ⟨fun w => ?_, fun _ => ⟨o168 K2, 191, r168_28 K2, (s191 K2 _).mpr ((ix_nI (by omega)).mpr (by omega)), fun x5 e5 => ?_⟩⟩
        · rw [nI_leI (by omega) (by omega)] at w
          omega
        rw [nI_clamp (by omega), fr_i F2 191 (by decide), eT k (by omega)] at e5
        subst e5
        have bad : ¬ ps T k → ¬ (T k = m1 ∧ fs T k < np T k) → Q (some (.int (-1))) h2 := fun a b => k0 (fun q => by
          rcases q.1.2.2.1 k hk with w | w
          · exact a w
          · exact b w) h2 F2
        have go2 : ¬ (T k = m1 ∧ fs T k < np T k) → ex_G mX12_passes (d + 1) 123 [.ref 168, .int (nI (L - 1)), .int (nI (np T k)), .int (nI (fs T k)), .int (nI k), .int (T k)] [] h2 bc bs Q := by
          intro nm
          refine X12_passes_123 ?_
          rw [in_rg 0 159 (by decide) (by decide)]
          by_cases p : ps T k
          · obtain ⟨ev, hv⟩ := ps_v p
            have ti : (T k).toInt = (tv T k : Int) := by rw [ev, nI_toInt hv]
            refine ⟨fun w => k0 (fun q => w ?_) h2 F2, fun w => ?_⟩
            · have := (q.2 k hk p).1
              omega
            have h160 : tv T k < 160 := by
              have : 0 ≤ (T k).toInt ∧ (T k).toInt ≤ 159 := Classical.not_not.mp w
              omega
            -- the book of the strand
            have fin : ∀ b, b = sw (tv T k / 2) → ex_G mX12_passes (d + 1) 154 [.ref 168, .int (nI (L - 1)), .int (nI (np T k)), .int (nI (fs T k)), .int (nI k), .int (T k)] [.ref b] h2 bc bs Q := by
              intro b eb
              have b2 : b = 192 ∨ b = 193 := by
                rw [eb]
                unfold sw
                split
                · exact Or.inl rfl
                · exact Or.inr rfl
              have dv : T k / 4 = nI (tv T k / 4) := by
                rw [ev]
                exact pk_div (d := 4) (by omega) (by omega) (by omega)
              have sb : ∀ g, sp g → ld0 g b (nI (tv T k / 4)) := fun g Kg => by
                rcases b2 with q | q
                · rw [q]; exact (s192 Kg _).mpr ((ix_nI (by omega)).mpr (by omega))
                · rw [q]; exact (s193 Kg _).mpr ((ix_nI (by omega)).mpr (by omega))
              have tb : ∀ g, sp g → st0 g b (nI (tv T k / 4)) := fun g Kg => by
                rcases b2 with q | q
                · rw [q]; exact (t192 Kg _).mpr ((ix_nI (by omega)).mpr (by omega))
                · rw [q]; exact (t193 Kg _).mpr ((ix_nI (by omega)).mpr (by omega))
              have bL : b ∈ [192, 193, 194] := by rcases b2 with q | q <;> rw [q] <;> decide
              refine X12_passes_154 ?_
              rw [dv, nI_clamp (by omega)]
              refine ⟨sb h2 K2, fun un => ?_, fun us_ => k0 (fun q => us_ ?_) h2 F2⟩
              · have dif : ∀ i, i < k → ps T i → tv T i / 2 ≠ tv T k / 2 := fun i hi pi e => by
                  have j1 := B1 i hi pi
                  have := np_lt hi pi
                  rw [e, ← eb, show tv T i / 4 = tv T k / 4 by omega, un] at j1
                  exact m1_en (by omega) j1
                have st : ∀ h' x7 x8, h' = ah_si (ah_si h2 b (tv T k / 4) (2 * nI (np T k) + (T k &&& 1))) 194 (np T k) (nI (np T k) - 1) → x7 = nI (np T k) + 1 → x8 = nI k + 1 → ex_G mX12_passes (d + 1) 83 [.ref 168, .int (nI (L - 1)), .int x7, .int (nI (fs T k)), .int x8, .retAddr 0] [] h' bc bs Q := by
                  intro h' x7 x8 eh e7 e8
                  have g7 : x7 = nI (np T k + 1) := by rw [e7]; exact nI_add _ 1
                  have g8 : x8 = nI (k + 1) := by rw [e8]; exact nI_add _ 1
                  have F' : fr [192, 193, 194] h h' := by rw [eh]; exact fr_si (fr_si F2 bL) (by decide)
                  have val : 2 * nI (np T k) + (T k &&& 1) = nI (2 * np T k + tv T k % 2) := by
                    have a : (2 : Int32) * nI (np T k) = nI (2 * np T k) := pk_mul 2 _
                    have c : T k &&& 1 = nI (tv T k % 2) := by rw [ev]; exact and1 hv
                    rw [a, c, nI_add]
                  have ib : ∀ x, x = 192 ∨ x = 193 → ah_i h' x = if x = b then u1 (ah_i h2 b) (tv T k / 4) (nI (2 * np T k + tv T k % 2)) else ah_i h2 x := fun x hx => by
                    rw [eh, i_si_n _ _ _ _ _ (by omega), val]
                    by_cases q : x = b
                    · rw [if_pos q, q, i_si_s]
                    · rw [if_neg q, i_si_n _ _ _ _ _ q]
                  have ic : ah_i h' 194 = u1 (ah_i h2 194) (np T k) (nI (np T k) - 1) := by rw [eh, i_si_s, i_si_n _ _ _ _ _ (by omega)]
                  have s2 : ∀ w, sw w = 192 ∨ sw w = 193 := fun w => by
                    unfold sw
                    split
                    · exact Or.inl rfl
                    · exact Or.inr rfl
                  have sne : ∀ w, w ≠ tv T k / 2 → ah_i h' (sw w) (w / 2) = ah_i h2 (sw w) (w / 2) := fun w hw => by
                    rw [ib _ (s2 w)]
                    by_cases q : sw w = b
                    · rw [if_pos q, ← q]
                      have : w / 2 ≠ tv T k / 4 := fun e => by
                        rw [eb] at q
                        unfold sw at q
                        split at q <;> split at q <;> omega
                      rw [u1_n _ _ this]
                    · rw [if_neg q]
                  have stp_ := nx h' ⟨F', ⟨fun i hi pi => ?_, fun w hw un_ => ?_, fun j hj nj => ?_⟩, fun i hi => ?_, fun i hi pi => ?_⟩
                  · rw [np_y p, fs_y p] at stp_
                    rw [g7, g8]
                    exact stp_
                  · by_cases q : i = k
                    · subst q
                      rw [ib _ (s2 _), if_pos eb.symm, u1_s]
                    · have := sne (tv T i / 2) (dif i (by omega) pi)
                      rw [show tv T i / 2 / 2 = tv T i / 4 by omega] at this
                      rw [this]
                      exact B1 i (by omega) pi
                  · rw [sne w (Ne.symm (un_ k (by omega) p))]
                    exact B2 w hw (fun i hi pi => un_ i (by omega) pi)
                  · rw [fs_y p] at nj
                    rw [np_y p] at hj
                    rw [cb_y p, ic]
                    by_cases q : j = np T k
                    · subst q
                      rw [u1_s, u1_s]
                      exact nI_m1 (by omega)
                    · rw [u1_n _ _ q, u1_n _ _ q]
                      exact B3 j (by omega) nj
                  · by_cases q : i = k
                    · rw [q]; exact Or.inl p
                    · exact I1 i (by omega)
                  · by_cases q : i = k
                    · subst q
                      exact ⟨h160, dif⟩
                    · exact I2 i (by omega) pi
                have wr : ex_G mX12_passes (d + 1) 183 [.ref 168, .int (nI (L - 1)), .int (nI (np T k)), .int (nI (fs T k)), .int (nI k), .int (T k)] [.ref b] h2 bc bs Q := by
                  refine X12_passes_183 ?_
                  rw [dv, nI_clamp (by omega)]
                  refine ⟨tb h2 K2, fun h1' e1' => ?_⟩
                  have K1' : sp h1' := sp_fr K2 (L := [192, 193, 194]) (by rw [e1']; exact fr_si (fr_refl _ h2) bL)
                  refine ⟨o168 K1', 194, r168_32 K1', (t194 K1' _).mpr ((ix_nI (by omega)).mpr (by omega)), fun h5 e5 x7 e7 x8 e8 => st h5 x7 x8 ?_ e7 e8⟩
                  rw [e5, e1', nI_clamp (by omega)]
                rw [ev, and2_0 hv, ← ev]
                refine ⟨fun q => ⟨o168 K2, 193, r168_31 K2, ?_⟩, fun q => ⟨o168 K2, 192, r168_30 K2, ?_⟩⟩
                · have : b = 193 := by rw [eb]; exact sw_193 (by omega)
                  rw [← this]
                  exact wr
                · have : b = 192 := by rw [eb]; exact sw_192 (by omega)
                  rw [← this]
                  exact wr
              · have := B2 (tv T k / 2) (by omega) (fun i hi pi => (q.2 k hk p).2 i hi pi)
                rw [← eb, show tv T k / 2 / 2 = tv T k / 4 by omega] at this
                exact this
            rw [ev, and2_0 hv, ← ev]
            refine ⟨fun q => ⟨o168 K2, 193, r168_31 K2, fin _ (sw_193 (by omega)).symm⟩, fun q => ⟨o168 K2, 192, r168_30 K2, fin _ (sw_192 (by omega)).symm⟩⟩
          · refine ⟨fun _ => bad p nm, fun w => absurd (fun q => p (m4_.mpr q.1)) w⟩
        refine ⟨fun w => go2 (fun q => w q.1), fun w => ⟨fun w2 => go2 (fun q => ?_), fun w2 => ?_⟩⟩
        · rw [nI_leI (by omega) (by omega)] at w2
          omega
        · rw [nI_leI (by omega) (by omega)] at w2
          have n_ : ¬ ps T k := fun q => by
            have a := m4_.mp q
            have b := m2_.mp w
            omega
          refine ⟨194, r168_32 K2, (t194 K2 _).mpr ((ix_nI (by omega)).mpr (by omega)), fun h9 e9 x11 e11 => ?_⟩
          rw [nI_clamp (by omega)] at e9
          have F9 : fr [192, 193, 194] h h9 := by rw [e9]; exact fr_si F2 (by decide)
          have i2 : ah_i h9 192 = ah_i h2 192 := by rw [e9, i_si_n _ _ _ _ _ (by decide)]
          have i3 : ah_i h9 193 = ah_i h2 193 := by rw [e9, i_si_n _ _ _ _ _ (by decide)]
          have i4 : ah_i h9 194 = u1 (ah_i h2 194) (fs T k) (nI (np T k - 1)) := by rw [e9, i_si_s, nI_m1 (by omega)]
          have sA : ∀ w, ah_i h9 (sw w) = ah_i h2 (sw w) := fun w => by
            unfold sw
            split
            · exact i2
            · exact i3
          have g : x11 = nI (k + 1) := by rw [e11]; exact nI_add _ 1
          have stp_ := nx h9 ⟨F9, ⟨fun i hi pi => ?_, fun w hw un_ => ?_, fun j hj nj => ?_⟩, fun i hi => ?_, fun i hi pi => ?_⟩
          · rw [np_n n_, fs_n n_] at stp_
            rw [g]
            exact stp_
          · rw [sA]
            refine B1 i ?_ pi
            by_cases q : i = k
            · subst q; exact absurd pi n_
            · omega
          · rw [sA]
            exact B2 w hw (fun i hi pi => un_ i (by omega) pi)
          · rw [np_n n_] at hj
            rw [cb_n n_, i4]
            by_cases q : j = fs T k
            · rw [q, u1_s, u1_s]
            · rw [u1_n _ _ q, u1_n _ _ q]
              exact B3 j hj q
          · by_cases q : i = k
            · rw [q]; exact Or.inr ⟨w, by omega⟩
            · exact I1 i (by omega)
          · refine I2 i ?_ pi
            by_cases q : i = k
            · subst q; exact absurd pi n_
            · omega
      · rintro h2 ⟨F2, B0, I1, I2⟩
        exact X12_passes_83 ⟨fun _ => k1 ⟨⟨by omega, rg, I1, hfs⟩, I2⟩ h2 F2 B0, fun w => absurd ((nI_leI (by omega) (by omega)).mpr (Nat.le_refl _)) w⟩
  refine ⟨fun w => go ?_, fun w => ⟨?_, ?_⟩⟩
  · have : L - 1 = 0 := by have := c0.mp w; omega
    rw [this]
    rfl
  · have : nI (L - 1) - 1 = nI (L - 1 - 1) := nI_m1 (by
      have : ¬ L - 1 ≤ 0 := fun q => w (c0.mpr q)
      omega)
    rw [this]
    exact (s191 K _).mpr ((ix_nI (by omega)).mpr (by omega))
  · have l1 : 1 ≤ L - 1 := by
      have : ¬ L - 1 ≤ 0 := fun q => w (c0.mpr q)
      omega
    obtain ⟨l, hl⟩ : ∃ l, L - 1 = l + 1 := ⟨L - 1 - 1, by omega⟩
    rw [nI_m1 l1, nI_clamp (by omega), eT _ (by omega), hl]
    have fl := fs_le T l
    obtain ⟨m1_, m2_, m3_, m4_⟩ := i32_m (T l)
    refine ⟨fun q => ?_, fun q => k0 (fun P => q ?_) h (fr_refl _ h)⟩
    · rw [← hl]
      refine go ?_
      have n_ : ¬ ps T l := fun z => by
        have a := m2_.mp q
        have b := m4_.mp z
        omega
      rw [hl, fs_n n_, np_n n_]
    · have e := P.1.2.2.2
      rw [hl] at e
      rcases P.1.2.2.1 l (by omega) with z | z
      · rw [fs_y z, np_y z] at e
        omega
      · exact z.1
end MG
