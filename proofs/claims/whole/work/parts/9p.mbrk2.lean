/-! The reference makes a bracket, and a polynomial: the sums. -/
section MBRK2
variable {h : AH} {d bc bs : Nat} {Q : Option Value → AH → Prop}
/-- one kind of smoothings is added -/
theorem m_addk {s M n c s' T : Nat} {P0 : Int → Int} (K : sp h) (h14 : n ≤ 14) (hs' : s' ≤ n) (hc : c ≤ 37) (L0 : ml h 185 P0) (LD : ml h 189 (Dp c))
    (k : ∀ h', fr [185] h h' → ml h' 185 (fun j => P0 j + (T : Int) * Dp c (j - ((n : Int) - 2 * s'))) → ex_G mX12_bracketOf (d + 1) 188 [.ref 168, .int (nI s), .int (nI M), .int (nI (c + 1)), .int (nI (s' + 1)), .retAddr 0, .retAddr 0, .retAddr 0, .retAddr 0] [] h' bc bs Q) : ex_G mX12_bracketOf (d + 1) 229 [.ref 168, .int (nI s), .int (nI M), .int (nI (c + 1)), .int (nI s'), .long (Int64.ofInt (T : Int)), .retAddr 0, .int (iI ((n : Int) - 2 * s')), .int (nI 0)] [] h bc bs Q := by
  have es : nI s' + 1 = nI (s' + 1) := nI_add _ 1
  refine lp 601 (fun kk h' => fr [185] h h' ∧ ∀ j : Nat, j < 601 → ah_l h' 185 j = Int64.ofInt (P0 ((j : Int) - 300) + if (j : Int) - ((n : Int) - 2 * s') < kk then (T : Int) * Dp c ((j : Int) - 300 - ((n : Int) - 2 * s')) else 0)) (fun kk h' => ex_G mX12_bracketOf (d + 1) 229 [.ref 168, .int (nI s), .int (nI M), .int (nI (c + 1)), .int (nI s'), .long (Int64.ofInt (T : Int)), .retAddr 0, .int (iI ((n : Int) - 2 * s')), .int (nI kk)] [] h' bc bs Q) ⟨fr_refl _ h, fun j hj => ?_⟩ ?_ ?_
  · rw [L0 j hj]
    by_cases q : (j : Int) - ((n : Int) - 2 * s') < ((0 : Nat) : Int)
    · rw [if_pos q, Dp_supp c _ (by omega), Int.mul_zero, Int.add_zero]
    · rw [if_neg q, Int.add_zero]
  · rintro kk h1 hk ⟨F1, I1⟩ nx
    have K1 := sp_fr K F1
    have c1 : (601 : Int32) ≤ nI kk ↔ 601 ≤ kk := nI_leI (a := 601) (by omega) (by omega)
    have e1 : nI kk + 1 = nI (kk + 1) := nI_add _ 1
    have pk : ah_l h1 189 kk = Int64.ofInt (Dp c ((kk : Int) - 300)) := by rw [fr_l F1 189 (by decide)]; exact LD kk hk
    refine X12_bracketOf_229 ⟨fun w => by have := c1.mp w; omega, fun _ => ⟨fun z x4 e4 => ?_, fun z => ⟨o168 K1, 189, r168_26 K1, (s189 K1 _).mpr ((ix_nI (by omega)).mpr hk), ?_⟩⟩⟩
    · have z0 := (lgc0 _ _).mp z
      rw [e4, es]
      refine k h1 F1 (fun j hj => ?_)
      rw [I1 j hj]
      show _ = Int64.ofInt (P0 ((j : Int) - 300) + (T : Int) * Dp c ((j : Int) - 300 - ((n : Int) - 2 * s')))
      rw [Int64.ofInt_add, Int64.ofInt_add, Int64.ofInt_mul (T : Int), z0, Int64.zero_mul]
      congr 1
      split
      · rw [Int64.ofInt_mul, z0, Int64.zero_mul]
      · rfl
    · rw [nI_clamp (show kk < 2 ^ 31 by omega), pk, e1]
      refine ⟨fun z x9 e9 => ?_, fun z => ?_⟩
      · have z0 := (lgc0 _ _).mp z
        rw [e9]
        refine nx h1 ⟨F1, fun j hj => ?_⟩
        rw [I1 j hj, Int64.ofInt_add, Int64.ofInt_add]
        congr 1
        by_cases q : (j : Int) - ((n : Int) - 2 * s') = kk
        · rw [if_neg (by omega), if_pos (by omega), Int64.ofInt_mul, show (j : Int) - 300 - ((n : Int) - 2 * s') = (kk : Int) - 300 by omega, z0, Int64.mul_zero]
          rfl
        · by_cases q2 : (j : Int) - ((n : Int) - 2 * s') < kk
          · rw [if_pos q2, if_pos (by omega)]
          · rw [if_neg q2, if_neg (by omega)]
      · have dz : Dp c ((kk : Int) - 300) ≠ 0 := fun q => z ((lgc0 _ _).mpr (by rw [q]; rfl))
        have rg : -(2 * c : Int) ≤ (kk : Int) - 300 ∧ (kk : Int) - 300 ≤ 2 * c := by
          by_cases q : (kk : Int) - 300 < -(2 * c : Int) ∨ (2 * c : Int) < (kk : Int) - 300
          · exact absurd (Dp_supp c _ q) dz
          · omega
        obtain ⟨j0, q1, q2⟩ := iI_nat (a := (kk : Int) + ((n : Int) - 2 * s')) (by omega)
        have ej : nI kk + iI ((n : Int) - 2 * s') = nI j0 := by rw [← iI_n kk, iI_add, q2]
        rw [ej, nI_clamp (by omega)]
        refine ⟨185, r168_20 K1, (s185 K1 _).mpr ((ix_nI (by omega)).mpr (by omega)), fun h12 e12 x13 e13 => ?_⟩
        rw [e13]
        refine nx h12 ⟨by rw [e12]; exact fr_sl F1 (by decide), fun j hj => ?_⟩
        rw [e12, l_sl_s]
        by_cases w : j = j0
        · rw [w, u1_s, I1 _ (by omega), if_neg (by omega), if_pos (by omega), Int.add_zero, Int64.ofInt_add, Int64.ofInt_mul, show (j0 : Int) - 300 - ((n : Int) - 2 * s') = (kk : Int) - 300 by omega]
        · rw [u1_n _ _ w, I1 j hj]
          congr 2
          by_cases q3 : (j : Int) - ((n : Int) - 2 * s') < kk
          · rw [if_pos q3, if_pos (by omega)]
          · rw [if_neg q3, if_neg (by omega)]
  · rintro h1 ⟨F1, I1⟩
    refine X12_bracketOf_229 ⟨fun _ x2 e2 => ?_, fun w => absurd (show (601 : Int32) ≤ nI 601 by decide) w⟩
    rw [e2, es]
    refine k h1 F1 (fun j hj => ?_)
    rw [I1 j hj]
    show _ = Int64.ofInt (P0 ((j : Int) - 300) + (T : Int) * Dp c ((j : Int) - 300 - ((n : Int) - 2 * s')))
    congr 2
    by_cases q : (j : Int) - ((n : Int) - 2 * s') < ((601 : Nat) : Int)
    · rw [if_pos q]
    · rw [if_neg q, Dp_supp c _ (by omega), Int.mul_zero]
theorem m_bracketOf {s n l w : Nat} {A m : Nat → Nat} (K : sp h) (P : Pr n A m) (hs : s < 368) (M0 : mD h s n l A) (h14 : n ≤ 14) (h9 : l ≤ 9) (hw : ah_f h 168 23 = nI w)
    (k : ∀ h', fr [168, 176, 178, 179, 185, 187, 188, 189, 190] h h' → ah_f h' 168 = u1 (ah_f h 168) 23 (nI (w + 2 ^ n)) → (∀ e, e < 4 * n → ah_i h' 176 e = nI (m e)) → ml h' 185 (brk (TY n l m) n (2 * n + l)) → Q none h') : ex_S yX12_bracketOf mX12_bracketOf (d + 1) [.ref 168, .int (nI s)] h bc bs Q := by
  refine X12_bracketOf_e (X12_bracketOf_0 ⟨o168 K, m_link K hs M0.1 (by omega) M0.2.2.2 P (fun h1 F1 g1 => ⟨rfl, ?_⟩)⟩)
  have K1 := sp_fr K F1
  refine ⟨o168 K1, 170, r168_2 K1, (s170 K1 _).mpr ((ix_nI (by omega)).mpr (by omega)), fun h6 e6 => ?_⟩
  rw [nI_clamp (by omega), fr_i F1 170 (by decide), M0.1, shl1 h14, fr_f F1 168 (by decide), hw, nI_add] at e6
  have F6 : fr [168, 176, 178, 179, 185, 187, 188, 189, 190] h h6 := by rw [e6]; exact fr_sf (fr_mono F1 (by decide)) (by decide)
  have f6 : ah_f h6 168 = u1 (ah_f h 168) 23 (nI (w + 2 ^ n)) := by rw [e6, f_sf_s, fr_f F1 168 (by decide)]
  have g6 : ∀ e, e < 4 * n → ah_i h6 176 e = nI (m e) := fun e he => by rw [e6, i_sf]; exact g1 e he
  clear e6 g1 F1 K1
  have K6 := sp_fr K F6
  refine m_bways (l := l) K6 P hs (by rw [fr_i F6 170 (by decide)]; exact M0.1) (by rw [fr_i F6 171 (by decide)]; exact M0.2.1) h14 h9 g6 (fun h7 M F7 hM hcy I7 => ?_)
  -- made and power
  have bl_ : ∀ a, a ∈ bl → a ∈ [168, 176, 178, 179, 185, 187, 188, 189, 190] := by decide
  refine lp 601 (fun j h' => fr bl h6 h' ∧ ah_l h' 188 = ah_l h7 188 ∧ ∀ i : Nat, i < j → ah_l h' 185 i = 0 ∧ ah_l h' 189 i = Int64.ofInt (Dp 0 ((i : Int) - 300))) (fun j h' => ex_G mX12_bracketOf (d + 1) 140 [.ref 168, .int (nI s), .int (nI M), .int (nI j), .retAddr 0, .retAddr 0, .retAddr 0, .retAddr 0, .retAddr 0] [] h' bc bs Q) ⟨F7, rfl, fun i hi => absurd hi (Nat.not_lt_zero i)⟩ ?_ ?_
  · rintro j h8 hj ⟨F8, s8, I8⟩ nx
    have K8 := sp_fr K6 F8
    have c1 : (601 : Int32) ≤ nI j ↔ 601 ≤ j := nI_leI (a := 601) (by omega) (by omega)
    have c3 : nI j = (300 : Int32) ↔ j = 300 := nI_eq (b := 300) (by omega) (by omega)
    have e1 : nI j + 1 = nI (j + 1) := nI_add _ 1
    have ij : ix (nI j) 601 := (ix_nI (by omega)).mpr hj
    refine X12_bracketOf_140 ⟨fun w => by have := c1.mp w; omega, fun _ => ⟨o168 K8, 185, r168_20 K8, (s185 K8 _).mpr ij, fun h9_ e9 => ?_⟩⟩
    rw [nI_clamp (by omega)] at e9
    have F9 : fr bl h6 h9_ := by rw [e9]; exact fr_sl F8 (by decide)
    have K9 := sp_fr K6 F9
    have fin : ∀ (hz : AH) (v : Int64), hz = ah_sl h9_ 189 j v → v = Int64.ofInt (Dp 0 ((j : Int) - 300)) → ex_G mX12_bracketOf (d + 1) 140 [.ref 168, .int (nI s), .int (nI M), .int (nI (j + 1)), .retAddr 0, .retAddr 0, .retAddr 0, .retAddr 0, .retAddr 0] [] hz bc bs Q := fun hz v ez hv => by
      refine nx hz ⟨by rw [ez]; exact fr_sl F9 (by decide), by rw [ez, l_sl_n _ _ _ _ _ (by decide), e9, l_sl_n _ _ _ _ _ (by decide)]; exact s8, fun i hi => ?_⟩
      have a1 : ah_l hz 185 = u1 (ah_l h8 185) j 0 := by rw [ez, l_sl_n _ _ _ _ _ (by decide), e9, l_sl_s]
      have a2 : ah_l hz 189 = u1 (ah_l h8 189) j v := by rw [ez, l_sl_s, e9, l_sl_n _ _ _ _ _ (by decide)]
      rw [a1, a2]
      by_cases z : i = j
      · rw [z, u1_s, u1_s]; exact ⟨rfl, hv⟩
      · rw [u1_n _ _ z, u1_n _ _ z]; exact I8 i (by omega)
    refine ⟨189, r168_26 K9, ?_⟩
    rw [e1, nI_clamp (by omega)]
    refine ⟨fun z => ⟨(s189 K9 _).mpr ij, fun hz ez x10 e10 => ?_⟩, fun z => ⟨(s189 K9 _).mpr ij, fun hz ez x13 e13 => ?_⟩⟩
    · rw [e10]
      exact fin hz 0 ez (by
        have : ¬ (j : Int) - 300 = 0 := fun q => z (c3.mpr (by omega))
        show (0 : Int64) = Int64.ofInt (if (j : Int) - 300 = 0 then 1 else 0)
        rw [if_neg this]
        rfl)
    · rw [e13]
      exact fin hz 1 ez (by
        have : (j : Int) - 300 = 0 := by have := c3.mp z; omega
        show (1 : Int64) = Int64.ofInt (if (j : Int) - 300 = 0 then 1 else 0)
        rw [if_pos this]
        rfl)
  rintro h8 ⟨F8, s8, I8⟩
  refine X12_bracketOf_140 ⟨fun _ => ?_, fun w => absurd (show (601 : Int32) ≤ nI 601 by decide) w⟩
  refine lp M (fun c h' => fr bl h6 h' ∧ ah_l h' 188 = ah_l h7 188 ∧ ml h' 185 (brk (TY n l m) n c) ∧ ml h' 189 (Dp c)) (fun c h' => ex_G mX12_bracketOf (d + 1) 180 [.ref 168, .int (nI s), .int (nI M), .int (nI (c + 1)), .retAddr 0, .retAddr 0, .retAddr 0, .retAddr 0, .retAddr 0] [] h' bc bs Q) ⟨F8, s8, fun i hi => (I8 i hi).1, fun i hi => (I8 i hi).2⟩ ?_ ?_
  · rintro c h9_ hc ⟨F9, s9, L9, D9⟩ nx
    refine X12_bracketOf_180 ⟨fun z => by rw [nI_ltI (by omega) (by omega)] at z; omega, fun _ => ?_⟩
    refine lp (n + 1) (fun s' h' => fr bl h6 h' ∧ ah_l h' 188 = ah_l h7 188 ∧ ml h' 185 (fun k => brk (TY n l m) n c k + zs (fun s' => (TY n l m (c + 1) s' : Int) * Dp c (k - ((n : Int) - 2 * s'))) s') ∧ ml h' 189 (Dp c)) (fun s' h' => ex_G mX12_bracketOf (d + 1) 188 [.ref 168, .int (nI s), .int (nI M), .int (nI (c + 1)), .int (nI s'), .retAddr 0, .retAddr 0, .retAddr 0, .retAddr 0] [] h' bc bs Q) ⟨F9, s9, fun i hi => by rw [L9 i hi]; show _ = Int64.ofInt (_ + zs _ 0); rw [zs_0, Int.add_zero], D9⟩ ?_ ?_
    · rintro s' h10 hs' ⟨F10, s10, L10, D10⟩ nx2
      have K10 := sp_fr K6 F10
      have n10 : ah_i h10 170 s = nI n := by rw [fr_i F10 170 (by decide), fr_i F6 170 (by decide)]; exact M0.1
      have e30 : (30 : Int32) * nI (c + 1) + nI s' = nI (30 * (c + 1) + s') := by
        have : (30 : Int32) * nI (c + 1) = nI (30 * (c + 1)) := pk_mul 30 _
        rw [this, nI_add]
      have e2 : nI n - (2 : Int32) * nI s' = iI ((n : Int) - 2 * s') := by
        have : (2 : Int32) * nI s' = iI (2 * (s' : Int)) := iI_mul 2 s'
        rw [this, ← iI_n n, iI_sub]
      refine X12_bracketOf_188 ⟨o168 K10, 170, r168_2 K10, (s170 K10 _).mpr ((ix_nI (by omega)).mpr (by omega)), ?_⟩
      rw [nI_clamp (show s < 2 ^ 31 by omega), n10, nI_ltI (by omega) (by omega), e30, e2]
      refine ⟨fun z => by omega, fun _ => ⟨188, r168_25 K10, (s188 K10 _).mpr ((ix_nI (by omega)).mpr (by omega)), fun x9 e9 x10 e10 => ?_⟩⟩
      rw [nI_clamp (by omega), s10, I7 (c + 1) s' (by omega) (by omega)] at e9
      rw [e9, e10]
      refine m_addk K10 h14 (by omega) (by omega) L10 D10 (fun h11 F11 L11 => ?_)
      refine nx2 h11 ⟨fr_trans F10 (fr_mono F11 (by decide)), by rw [fr_l F11 188 (by decide)]; exact s10, fun i hi => ?_, fun i hi => by rw [fr_l F11 189 (by decide)]; exact D10 i hi⟩
      rw [L11 i hi]
      show Int64.ofInt (_ + zs _ s' + _) = Int64.ofInt (_ + zs _ (s' + 1))
      rw [zs_s, Int.add_assoc]
    · rintro h10 ⟨F10, s10, L10, D10⟩
      have K10 := sp_fr K6 F10
      have n10 : ah_i h10 170 s = nI n := by rw [fr_i F10 170 (by decide), fr_i F6 170 (by decide)]; exact M0.1
      have e1 : nI (c + 1) + 1 = nI (c + 1 + 1) := nI_add _ 1
      refine X12_bracketOf_188 ⟨o168 K10, 170, r168_2 K10, (s170 K10 _).mpr ((ix_nI (by omega)).mpr (by omega)), ?_⟩
      rw [nI_clamp (show s < 2 ^ 31 by omega), n10, nI_ltI (by omega) (by omega)]
      refine ⟨fun _ => m_times K10 D10 (fun k hk => Dp_supp c k (by omega)) (fun h11 F11 D11 => ⟨rfl, fun x6 e6 => ?_⟩), fun z => absurd (Nat.lt_succ_self n) z⟩
      rw [e6, e1]
      refine nx h11 ⟨fr_trans F10 (fr_mono F11 (by decide)), by rw [fr_l F11 188 (by decide)]; exact s10, fun i hi => ?_, D11⟩
      rw [fr_l F11 185 (by decide), L10 i hi]
      congr 1
      show _ = zs _ (c + 1)
      rw [zs_s]
      show brk (TY n l m) n c ((i : Int) - 300) + _ = _
      unfold brk hor
      congr 1
      refine zs_congr (fun s' _ => ?_)
      rw [show 0 + 1 + c = c + 1 by omega]
  · rintro h9_ ⟨F9, s9, L9, D9⟩
    refine X12_bracketOf_180 ⟨fun _ => ?_, fun z => absurd ((nI_ltI (by omega) (by omega)).mpr (Nat.lt_succ_self M)) z⟩
    refine k h9_ (fr_trans F6 (fr_mono F9 bl_)) (by rw [fr_f F9 168 (by decide)]; exact f6) (fun e he => by rw [fr_i F9 176 (by decide)]; exact g6 e he) (fun i hi => ?_)
    rw [L9 i hi, brk_more hM (fun c s' hc _ => ?_)]
    unfold TY Tn
    exact ct_none (fun u hu q => by have := hcy u hu; have q1 : cy n m u + l = c := q.1; omega)
end MBRK2
