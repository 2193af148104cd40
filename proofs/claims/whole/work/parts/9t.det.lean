/-! determinant. -/
def asm (P : Int → Int) (k0 : Int) (j : Nat) : Int := zs (fun i => (if i % 2 = 0 then 1 else -1) * P (k0 + 4 * (i : Int))) j
theorem asm_s (P : Int → Int) (k0 : Int) (j : Nat) : asm P k0 (j + 1) = asm P k0 j + (if j % 2 = 0 then 1 else -1) * P (k0 + 4 * (j : Int)) := rfl
theorem asm_more {P : Int → Int} {k0 : Int} {a b : Nat} (h : a ≤ b) (z : ∀ i : Nat, a ≤ i → P (k0 + 4 * (i : Int)) = 0) : asm P k0 b = asm P k0 a := by
  obtain ⟨t, e⟩ : ∃ t, b = a + t := ⟨b - a, by omega⟩
  subst e
  unfold asm
  have q : zs (fun i => (if (a + i) % 2 = 0 then (1 : Int) else -1) * P (k0 + 4 * ((a + i : Nat) : Int))) t = 0 := zs_none (fun i _ => by rw [z (a + i) (by omega), Int.mul_zero])
  rw [zs_app, q, Int.add_zero]
/-- the absolute value, as both sides take it -/
def abs_ (v : Int64) : Int64 := if 0 ≤ lg_cmp v 0 then v else -v
section DET
variable {h h1 h3 h5 h6 hz : AH} {d bc bs b : Nat} {Q : Option Value → AH → Prop} {W : Nat → Nat} {N : Nat} {B : Nat → Nat} {S : Nat → Int32} {len : Nat}
theorem low_ex {P : Int → Int} (Z : NZ P) : ∃ k0 : Nat, k0 < 281 ∧ Int64.ofInt (P ((k0 : Int) - 140)) ≠ 0 ∧ ∀ k : Nat, k < k0 → Int64.ofInt (P ((k : Int) - 140)) = 0 := by
  obtain ⟨k, k1, k2, q⟩ := Z
  obtain ⟨k0, a, b⟩ := pk_least (fun k : Nat => Int64.ofInt (P ((k : Int) - 140)) ≠ 0) ⟨(k + 140).toNat, by
    show Int64.ofInt (P ((((k + 140).toNat : Nat) : Int) - 140)) ≠ 0
    rw [show (((k + 140).toNat : Nat) : Int) - 140 = k by omega]
    exact q⟩
  refine ⟨k0, ?_, a, fun k hk => Classical.not_not.mp (b k hk)⟩
  by_cases z : k0 < 281
  · exact z
  · refine absurd ?_ (b (k + 140).toNat (by omega))
    show Int64.ofInt (P ((((k + 140).toNat : Nat) : Int) - 140)) ≠ 0
    rw [show (((k + 140).toNat : Nat) : Int) - 140 = k by omega]
    exact q
theorem c_altern {x y k0 : Nat} {P : Int → Int} (K : sp h) (hb : hb3 b) (L : LA h b x y P) (S0 : sup140 P) (hk : k0 < 281) (nz : Int64.ofInt (P ((k0 : Int) - 140)) ≠ 0) (lo : ∀ k : Nat, k < k0 → Int64.ofInt (P ((k : Int) - 140)) = 0) (k : Q (some (.long (abs_ (Int64.ofInt (asm P ((k0 : Int) - 140) ((280 - k0) / 4 + 1)))))) h) : ex_S yX2_alternatingSize mX2_alternatingSize (d + 1) [.ref b] h bc bs Q := by
  refine X2_alternatingSize_e (X2_alternatingSize_0 ⟨la_o K hb, c_lowest (la_o K hb) L.2.1 (la_x K hb (LA_xb L).1) hk (by rw [L.2.2.2 k0 hk]; exact nz) (fun k hk' => by rw [L.2.2.2 k (by omega)]; exact lo k hk') ⟨_, rfl, ?_⟩⟩)
  have e0 : nI k0 - nI 140 = iI ((k0 : Int) - 140 + 4 * ((0 : Nat) : Int)) := by
    rw [← iI_n k0, ← iI_n 140, iI_sub]
    congr 1
    omega
  rw [e0]
  refine lp ((280 - k0) / 4 + 1) (fun j h' => h' = h) (fun j h' => ex_G mX2_alternatingSize (d + 1) 10 [.ref b, .long (Int64.ofInt (asm P ((k0 : Int) - 140) j)), .retAddr 0, .int (iI (if j % 2 = 0 then 1 else -1)), .int (iI ((k0 : Int) - 140 + 4 * (j : Int)))] [] h' bc bs Q) rfl ?_ ?_
  · rintro j h1 hj rfl nx
    have c1 : (140 : Int32) < iI ((k0 : Int) - 140 + 4 * (j : Int)) ↔ 140 < (k0 : Int) - 140 + 4 * (j : Int) := iI_lt (a := 140) (by omega) (by omega) (by omega) (by omega)
    have A := numAt K hb L S0 (q := (k0 : Int) - 140 + 4 * (j : Int)) (by omega) (by omega)
    have e4 : iI ((k0 : Int) - 140 + 4 * (j : Int)) + 4 = iI ((k0 : Int) - 140 + 4 * ((j + 1 : Nat) : Int)) := by
      have : iI ((k0 : Int) - 140 + 4 * (j : Int)) + 4 = iI ((k0 : Int) - 140 + 4 * (j : Int) + 4) := iI_add _ 4
      rw [this]
      congr 1
      omega
    have f64 : Int32.toInt64 (iI (if j % 2 = 0 then 1 else -1)) = Int64.ofInt (if j % 2 = 0 then 1 else -1) := by split <;> decide
    have ng : -iI (if j % 2 = 0 then 1 else -1) = iI (if (j + 1) % 2 = 0 then 1 else -1) := by
      by_cases q : j % 2 = 0
      · rw [if_pos q, if_neg (by omega)]; decide
      · rw [if_neg q, if_pos (by omega)]; decide
    refine X2_alternatingSize_10 ⟨fun w => by have := c1.mp w; omega, fun _ => ⟨la_o K hb, A.1, ?_⟩⟩
    rw [A.2, e4, f64, ng, ← Int64.ofInt_mul, ← Int64.ofInt_add, ← asm_s]
    intro x4 e5 x5 e6 x6 e7
    rw [e5, e6, e7]
    exact nx h1 rfl
  · rintro h1 rfl
    have c1 : (140 : Int32) < iI ((k0 : Int) - 140 + 4 * (((280 - k0) / 4 + 1 : Nat) : Int)) ↔ 140 < (k0 : Int) - 140 + 4 * (((280 - k0) / 4 + 1 : Nat) : Int) := iI_lt (a := 140) (by omega) (by omega) (by omega) (by omega)
    exact X2_alternatingSize_10 ⟨fun _ => k, fun w => absurd (c1.mpr (by omega)) w⟩
theorem m_altern {k0 : Nat} {P : Int → Int} (K : sp h) (L : ml h 185 P) (S0 : sup140 P) (hk : k0 < 281) (nz : Int64.ofInt (P ((k0 : Int) - 140)) ≠ 0) (lo : ∀ k : Nat, k < k0 → Int64.ofInt (P ((k : Int) - 140)) = 0) (k : Q (some (.long (abs_ (Int64.ofInt (asm P ((k0 : Int) - 140) ((280 - k0) / 4 + 1)))))) (mNo h (nI 0))) : ex_G mX12_determinant (d + 6) 22 [.ref 168, .retAddr 0, .retAddr 0, .int (nI 0), .retAddr 0, .retAddr 0, .retAddr 0] [] h bc bs Q := by
  refine lp (k0 + 160) (fun j h' => h' = h) (fun j h' => ex_G mX12_determinant (d + 6) 22 [.ref 168, .retAddr 0, .retAddr 0, .int (nI j), .retAddr 0, .retAddr 0, .retAddr 0] [] h' bc bs Q) rfl ?_ ?_
  · rintro j h1 hj rfl nx
    have e1 : nI j + 1 = nI (j + 1) := nI_add _ 1
    have z : ah_l h1 185 j = 0 := by
      rw [L j (by omega)]
      by_cases q : j < 160
      · rw [S0 _ (by omega)]; rfl
      · have := lo (j - 160) (by omega)
        rw [show (((j - 160 : Nat) : Int)) - 140 = (j : Int) - 300 by omega] at this
        exact this
    refine X12_determinant_22 ⟨o168 K, 185, r168_20 K, (s185 K _).mpr ((ix_nI (by omega)).mpr (by omega)), ?_⟩
    rw [nI_clamp (by omega), z]
    refine ⟨fun w => absurd ((lgc0 _ _).mpr rfl) w, fun _ x5 e5 => ?_⟩
    rw [e5, e1]
    exact nx h1 rfl
  rintro h1 rfl
  have z : ah_l h1 185 (k0 + 160) ≠ 0 := by
    rw [L _ (by omega), show ((k0 + 160 : Nat) : Int) - 300 = (k0 : Int) - 140 by omega]
    exact nz
  refine X12_determinant_22 ⟨o168 K, 185, r168_20 K, (s185 K _).mpr ((ix_nI (by omega)).mpr (by omega)), ?_⟩
  rw [nI_clamp (by omega)]
  refine ⟨fun _ => ?_, fun w => absurd ((lgc0 _ _).mp w) z⟩
  refine lp ((440 - k0) / 4 + 1) (fun j h' => h' = h1) (fun j h' => ex_G mX12_determinant (d + 6) 45 [.ref 168, .retAddr 0, .retAddr 0, .int (nI (k0 + 160)), .long (Int64.ofInt (asm P ((k0 : Int) - 140) j)), .retAddr 0, .int (nI (k0 + 160 + 4 * j))] [] h' bc bs Q) rfl ?_ ?_
  · rintro j h2 hj rfl nx
    have c1 : (601 : Int32) ≤ nI (k0 + 160 + 4 * j) ↔ 601 ≤ k0 + 160 + 4 * j := nI_leI (a := 601) (by omega) (by omega)
    have e4 : nI (k0 + 160 + 4 * j) + 4 = nI (k0 + 160 + 4 * (j + 1)) := nI_add _ 4
    have sb : nI (k0 + 160 + 4 * j) - nI (k0 + 160) = nI (4 * j) := by
      rw [pk_sub (by omega), show k0 + 160 + 4 * j - (k0 + 160) = 4 * j by omega]
    have im8 : im_ (nI (4 * j)) 8 = nI (4 * j % 8) := im_nI (d := 8) (by omega) (by decide) (by decide)
    have m0 : nI (4 * j % 8) = (0 : Int32) ↔ 4 * j % 8 = 0 := nI_eq (b := 0) (by omega) (by omega)
    have vj : ah_l h2 185 (k0 + 160 + 4 * j) = Int64.ofInt (P ((k0 : Int) - 140 + 4 * (j : Int))) := by
      rw [L _ (by omega), show ((k0 + 160 + 4 * j : Nat) : Int) - 300 = (k0 : Int) - 140 + 4 * (j : Int) by omega]
    have ld : ld2 h2 185 (nI (k0 + 160 + 4 * j)) := (s185 K _).mpr ((ix_nI (by omega)).mpr (by omega))
    have st := nx h2 rfl
    rw [asm_s] at st
    refine X12_determinant_45 ⟨fun w => by have := c1.mp w; omega, fun _ => ?_⟩
    rw [sb, im8, m0, nI_clamp (by omega), e4]
    refine ⟨fun q => ⟨o168 K, 185, r168_20 K, ld, fun x11 e11 x12 e12 => ?_⟩, fun q => ⟨o168 K, 185, r168_20 K, ld, fun x11 e11 x12 e12 => ?_⟩⟩
    · rw [if_neg (by omega), Int64.ofInt_add] at st
      rw [vj, ← Int64.ofInt_neg] at e11
      rw [e11, e12, show -P ((k0 : Int) - 140 + 4 * (j : Int)) = -1 * P ((k0 : Int) - 140 + 4 * (j : Int)) by omega]
      exact st
    · rw [if_pos (by omega), Int64.ofInt_add, Int.one_mul] at st
      rw [vj] at e11
      rw [e11, e12]
      exact st
  · rintro h2 rfl
    have c1 : (601 : Int32) ≤ nI (k0 + 160 + 4 * ((440 - k0) / 4 + 1)) ↔ 601 ≤ k0 + 160 + 4 * ((440 - k0) / 4 + 1) := nI_leI (a := 601) (by omega) (by omega)
    have more : asm P ((k0 : Int) - 140) ((440 - k0) / 4 + 1) = asm P ((k0 : Int) - 140) ((280 - k0) / 4 + 1) := asm_more (by omega) (fun i hi => S0 _ (by omega))
    refine X12_determinant_45 ⟨fun _ => ⟨o168 K, weC K _, fun h4 e4 x5 _ => ?_⟩, fun w => absurd (c1.mpr (by omega)) w⟩
    rw [e4, weH, more]
    unfold abs_ at k
    refine ⟨fun q => ?_, fun q => ?_⟩
    · rw [if_pos q] at k; exact k
    · rw [if_neg q] at k; exact k
/-- a call that made a polynomial of its own keeps the result -/
theorem RS_keep {x y : Nat} {P : Int → Int} (x0 : R0 h W N B S len) (hb : hb3 b) (nb : b ≠ 73) (Fl : fr (lkc 7) h h1) (F6 : fB b h1 h6) (L6 : LA h6 b x y P) (G3 : fms (cNo h6 (nI 0)) h3) (F5 : fr mlL h3 h5) (f5 : ∀ k, k ≠ 23 → ah_f h5 168 k = ah_f h3 168 k) (Fz : fr [168] h5 hz) (fz : ∀ k, k ≠ 0 → ah_f hz 168 k = ah_f h5 168 k) : RS hz := by
  obtain ⟨K6, C6, n6, E6, f06, E7⟩ := B_see x0 hb Fl F6 L6
  obtain ⟨e73, e74, e75⟩ := E7 nb
  have mlM : ∀ a, a ∈ mlL → a ∈ Mscr := by decide
  have eall : ∀ a, a ∉ Mscr → eqc (cNo h6 (nI 0)) hz a := fun a a1 => eqc_trans (G3.2.1 a a1) (eqc_trans (eqc_fr F5 (fun q => a1 (mlM a q))) (eqc_fr Fz (fun q => a1 ((by decide : ∀ a, a ∈ [168] → a ∈ Mscr) a q))))
  refine RS_eq x0.2.2.2.2.2.2.2.1 (eqc_trans e73 (eall 73 (by decide))) ?_ (eqc_trans e74 (eall 74 (by decide))).2.2.2.1 (eqc_trans e75 (eall 75 (by decide))).2.2.2.1 (eqc_trans (E6 186 (by decide) (by decide) (by decide) (by decide) (by decide) (by decide)) (eall 186 (by decide))).2.2.2.1
  rw [fz 22 (by decide), f5 22 (by decide), G3.2.2.2.1 22 (by decide), (E6 168 (by decide) (by decide) (by decide) (by decide) (by decide) (by decide)).2.1]
theorem st_determinant (x : R0 h W N B S len) (p : Int32) : STL yX11_determinant mX11_determinant yX12_determinant mX12_determinant (d + 18) (d + 6) [.int p] h bc bs W S len := by
  have K := x.2.1
  obtain ⟨h24, hN, hN2, hP⟩ := x.2.2.2.2.1
  obtain ⟨w, w6, hw, hw2⟩ := x.2.2.2.2.2.2.2.2.1
  have hv := hasP (p := p) hN h24
  refine X11_determinant_e (X11_determinant_0 ⟨o0 K, hasPC K p, fun z => ?_, fun z => ?_⟩)
  · have Rn := R1_cNo x.2 (fcs_refl h) (-nI 2)
    refine X11_determinant_20 ⟨fun w => absurd w (by decide), fun _ => ⟨o0 K, c_no K 2 (by decide) ⟨_, rfl, _, rfl, ?_⟩⟩⟩
    refine X12_determinant_e (X12_determinant_0 ⟨o168 Rn.1, X12_spends_e (X12_spends_0 ⟨o168 Rn.1, m_refusal_no Rn (hv.mp z) ⟨_, rfl, fun w => absurd w (by decide), fun _ => ⟨_, rfl, fun w => absurd w (by decide), fun _ => ⟨rfl, ?_⟩⟩⟩⟩)⟩)
    exact D_no x (fcs_refl h) (-nI 2) (fms_refl _)
  · have ip : ix p N := Classical.not_not.mp (fun w => z (hv.mpr w))
    obtain ⟨p0, hp0, ep⟩ := ix_of ip (by omega)
    subst ep
    refine c_why (d := d + 12) (lim := 14) x.2 hp0 (by decide) hw w6 (fun h1 n op F => ⟨_, rfl, ?_⟩) (fun h1 n l f wh F rf => ⟨_, rfl, ?_⟩) (fun h1 n l wh F l1 l2 LFh ne le lw => ⟨_, rfl, ?_⟩)
    · have Fc := fcs_fr F lkc7
      have Rf := R1_cF x.2 Fc 3
      obtain ⟨-, hn, h40, r, pl, r0, O⟩ := op
      refine X11_determinant_20 ⟨fun w => absurd w (by decide), fun _ => ⟨o0 (sp_fr K F), c_f (sp_fr K F) 3 (by decide) (by decide) ⟨_, rfl, _, rfl, ?_⟩⟩⟩
      refine X12_determinant_e (X12_determinant_0 ⟨o168 Rf.1, m_spends_open (lim := 14) Rf (kc_f Fc 3) hp0 hn h40 O r0 (fun h3 G3 => ⟨_, rfl, fun w => absurd w (by decide), fun _ => ⟨rfl, ?_⟩⟩)⟩)
      exact D_f x Fc (by decide) (by decide) G3
    · have Fc := fcs_fr F lkc7
      have Rf := R1_cF x.2 Fc f
      have f3 := RF_f rf
      have nz : ¬ (-nI (10 + f) = (0 : Int32)) ∧ ¬ (0 : Int32) ≤ -nI (10 + f) := by
        rcases f3 with e | e | e
        · subst e; decide
        · subst e; decide
        · subst e; decide
      refine X11_determinant_20 ⟨fun w => absurd w nz.1, fun _ => ⟨o0 (sp_fr K F), c_f (sp_fr K F) f (by omega) (by omega) ⟨_, rfl, _, rfl, ?_⟩⟩⟩
      refine X12_determinant_e (X12_determinant_0 ⟨o168 Rf.1, m_spends (lim := 14) (w := w) Rf.1 (by rw [cF_168 Fc]; exact hN2) h24 wh (cF_sl Fc f p0) (by decide) (by rw [cF_168 Fc]; exact hw2) w6 (fun h3 f' G3 F3 rf' => ⟨_, rfl, fun w => ?_, fun _ => ?_⟩) (fun h3 G3 F3 ne le lw => (RF_no rf ne le lw).elim)⟩)
      · rw [← RF_u rf rf'] at w
        exact absurd w nz.2
      · rw [← RF_u rf rf']
        exact ⟨rfl, D_f x Fc (by omega) (by omega) G3⟩
    · have K1 := sp_fr K F
      have hb : hb3 76 := Or.inr (Or.inl rfl)
      have C1 := LAC_q x.2.2.1 F.1.2.2.1 F.1.2.2.2
      obtain ⟨xr, yr, e, r0, r1⟩ := LA_ex C1 hb
      have wh' := wh
      obtain ⟨-, hn, h40, h9, ⟨pl, O⟩, C, M, R⟩ := wh
      refine X11_determinant_20 ⟨fun _ => ⟨o0 K1, 32, r0_7 K1, 7, r0_4 K1, 76, r0_9 K1, o32 K1, c_makeBracket (d := d) (l := l) (w := w) K1 hb (lk7 K1) (by decide) R le h9 l1 l2 LFh.1 C1.2.1 (by rw [fr_f F 32 (by decide)]; exact hw) (LA_any e r0 r1) (fun h6 x6 y6 F6 L6 m6 w6' => ⟨rfl, ?_⟩)⟩, fun z => absurd rfl z⟩
      have K6 := sp_fB K1 hb F6
      have S0 := sup140_brk (T := TY n l (mt n (AN (ah_i h (B p0 + 2))))) (M := 2 * n + l) le (by omega)
      obtain ⟨k0, kk, knz, klo⟩ := low_ex (NZ_brk R le h9 ne).1
      refine ⟨o0 K6, fun h9_ e9 => ?_⟩
      have e9' : h9_ = cNo h6 (nI 0) := e9
      rw [e9']
      obtain ⟨Kc, Cc, nc, Ec, f0c, -⟩ := B_see x hb F F6 L6
      have L6c : LA (cNo h6 (nI 0)) 76 x6 y6 (brk (TY n l (mt n (AN (ah_i h (B p0 + 2))))) n (2 * n + l)) := ⟨L6.1, by rw [r_cNo]; exact L6.2.1, by rw [r_cNo]; exact L6.2.2.1, fun k hk => by unfold cNo; rw [l_sf]; exact L6.2.2.2 k hk⟩
      refine ⟨76, r0_9 Kc, o76 Kc, c_altern (d := d + 16) Kc hb L6c S0 kk knz klo ⟨_, rfl, _, rfl, ?_⟩⟩
      have fc : ah_f (cNo h6 (nI 0)) 168 = ah_f h 168 := (Ec 168 (by decide) (by decide) (by decide) (by decide) (by decide) (by decide)).2.1
      have ic : ∀ a, a = 170 ∨ a = 171 ∨ a = 172 ∨ a = 173 → ah_i (cNo h6 (nI 0)) a = ah_i h a := fun a ha => (Ec a (by omega) (fun q => by have := (by decide : ∀ a, a ∈ Cscr → a < 125) a q; omega) (by omega) (by omega) (by omega) (by omega)).2.2.1
      have slc : sl h (cNo h6 (nI 0)) p0 := sl_of p0 (ic 170 (by omega)) (ic 171 (by omega)) (ic 172 (by omega)) (ic 173 (by omega))
      refine X12_determinant_e (X12_determinant_0 ⟨o168 Kc, m_spends (lim := 14) (w := w) Kc (by rw [fc]; exact hN2) h24 wh' slc (by decide) (by rw [fc]; exact hw2) w6 (fun h3 f' G3 F3 rf' => (RF_no rf' ne le lw).elim) (fun h3 G3 F3 _ _ _ => ⟨_, rfl, fun _ => ?_, fun w => absurd (show (0 : Int32) ≤ nI 0 by decide) w⟩)⟩)
      have K3 := G3.2.2.1 Kc
      have M3 := mD_sl (mD_sl M h40 slc) h40 (G3.2.2.2.2 p0 (by omega))
      refine ⟨o168 K3, m_bracketOf (d := d + 4) (w := w) K3 R (by omega) M3 le h9 (by rw [G3.2.2.2.1 23 (by decide), fc]; exact hw2) (fun h5 F5 f5 _ L5 => ⟨rfl, ?_⟩)⟩
      have K5 := sp_fr K3 F5
      refine m_altern (d := d) K5 L5 S0 kk knz klo ⟨rfl, ?_⟩
      have key : ∀ hz, hz = mNo h5 (nI 0) → DONE h hz W S len := by
        intro hz ez
        have Fz : fr [168] h5 hz := by rw [ez]; unfold mNo; exact fr_sf (fr_refl _ h5) (by decide)
        have fz : ah_f hz 168 = u1 (ah_f h5 168) 0 (nI 0) := by rw [ez]; unfold mNo; rw [f_sf_s]
        have F5' : fr mlL h3 h5 := fr_mono F5 (by decide)
        exact D_brk x hb F F6 L6 w6' lw G3 F3 F5' f5 (fr_mono Fz (by decide)) (fun k k0 k22 => by rw [fz, u1_n _ _ k0]) (by rw [fz, u1_s]) (RS_keep x hb (by decide) F F6 L6 G3 F5' (fun k hk => by rw [f5, u1_n _ _ hk]) Fz (fun k hk => by rw [fz, u1_n _ _ hk]))
      exact key _ rfl
end DET
