/-! bracket, polynomial: the steps. -/
def NZ (P : Int → Int) : Prop := ∃ k : Int, -140 ≤ k ∧ k ≤ 140 ∧ Int64.ofInt (P k) ≠ 0
theorem brk_86 {T : Nat → Nat → Nat} {n l : Nat} (h14 : n ≤ 14) (h9 : l ≤ 9) {k : Int} (h : k < -86 ∨ 86 < k) : brk T n (2 * n + l) k = 0 := hor_supp 0 _ k (by omega)
theorem NZ_brk {n l : Nat} {A m : Nat → Nat} (P : Pr n A m) (h14 : n ≤ 14) (h9 : l ≤ 9) (ne : ¬ (n = 0 ∧ l = 0)) : NZ (brk (TY n l m) n (2 * n + l)) ∧ ∃ k : Int, -86 ≤ k ∧ k ≤ 86 ∧ Int64.ofInt (brk (TY n l m) n (2 * n + l) k) ≠ 0 := by
  obtain ⟨k, k1, k2, q⟩ := brk_ne (f := fun w => cy n m w + l) (n := n) (M := 2 * n + l) (by omega) (fun w _ => by
    have a := cy_le (w := w) P
    by_cases z : n = 0
    · show 1 ≤ cy n m w + l ∧ cy n m w + l ≤ 2 * n + l
      omega
    · have b := cy_pos (w := w) P (by omega)
      show 1 ≤ cy n m w + l ∧ cy n m w + l ≤ 2 * n + l
      omega)
  have rg : -86 ≤ k ∧ k ≤ 86 := by
    by_cases z : k < -86 ∨ 86 < k
    · exact absurd (by rw [show brk (Tn (fun w => cy n m w + l) (on n) (2 ^ n)) n (2 * n + l) k = 0 from brk_86 h14 h9 z]; rfl) q
    · omega
  exact ⟨⟨k, by omega, by omega, q⟩, k, rg.1, rg.2, q⟩
theorem sup140_lev {T : Nat → Nat → Nat} {n l : Nat} {wv : Int} (h14 : n ≤ 14) (h9 : l ≤ 9) (v1 : -14 ≤ wv) (v2 : wv ≤ 14) : sup140 (lev wv (brk T n (2 * n + l))) := fun k hk => by
  unfold lev
  rw [brk_86 h14 h9 (by omega), Int.mul_zero]
theorem NZ_lev {n l : Nat} {A m : Nat → Nat} {wv : Int} (P : Pr n A m) (h14 : n ≤ 14) (h9 : l ≤ 9) (ne : ¬ (n = 0 ∧ l = 0)) (v1 : -14 ≤ wv) (v2 : wv ≤ 14) : NZ (lev wv (brk (TY n l m) n (2 * n + l))) := by
  obtain ⟨-, k, k1, k2, q⟩ := NZ_brk P h14 h9 ne
  refine ⟨k - 3 * wv, by omega, by omega, fun z => q ?_⟩
  unfold lev at z
  rw [show k - 3 * wv + 3 * wv = k by omega] at z
  generalize brk (TY n l m) n (2 * n + l) k = b at z ⊢
  by_cases o : wv % 2 = 1
  · rw [if_pos o] at z
    rw [show b = -1 * (-1 * b) by omega, Int64.ofInt_mul, z, Int64.mul_zero]
  · rw [if_neg o, Int.one_mul] at z
    exact z
theorem RF_u {n l lim w f f' : Nat} (a : RF n l lim w f) (b : RF n l lim w f') : f = f' := by unfold RF at a b; omega
theorem RF_no {n l lim w f : Nat} (a : RF n l lim w f) (ne : ¬ (n = 0 ∧ l = 0)) (le : n ≤ lim) (lw : w + 2 ^ n ≤ 1000000) : False := by unfold RF at a; omega
theorem RF_f {n l lim w f : Nat} (a : RF n l lim w f) : f = 6 ∨ f = 7 ∨ f = 9 := by unfold RF at a; omega
section BSTEP
variable {h h1 h3 h5 h6 hz : AH} {d bc bs : Nat} {Q : Option Value → AH → Prop} {W : Nat → Nat} {N : Nat} {B : Nat → Nat} {S : Nat → Int32} {len : Nat}
theorem RS_brk {x y : Nat} {P : Int → Int} (L6 : LA h6 73 x y P) (m6 : ah_f h6 73 2 = nI 1) (S0 : sup140 P) (Z : NZ P) (G3 : fms (cNo h6 (nI 0)) h3) (F5 : fr mlL h3 h5) (Fz : fr [168, 186] h5 hz) (z22 : ah_f hz 168 22 = nI 1) (g : ∀ i : Nat, i < 601 → ah_l hz 186 i = Int64.ofInt (P ((i : Int) - 300))) : RS hz := by
  have mlM : ∀ a, a ∈ mlL → a ∈ Mscr := by decide
  have e_ : ∀ a, a ≠ 0 → a ∉ Mscr → a ≠ 186 → eqc h6 hz a := fun a a0 a1 a2 => eqc_trans ⟨by rw [k_cNo], by unfold cNo; rw [f_sf_n _ _ _ _ _ a0], by rw [i_cNo], by unfold cNo; rw [l_sf], by rw [r_cNo], by unfold cNo; rw [q_sf]⟩ (eqc_trans (G3.2.1 a a1) (eqc_trans (eqc_fr F5 (fun q => a1 (mlM a q))) (eqc_fr Fz (fun q => by
    have := (by decide : ∀ a, a ∈ [168, 186] → a ∈ Mscr ∨ a = 186) a q
    rcases this with w | w
    · exact a1 w
    · exact a2 w))))
  have xx : x = 74 ∨ x = 75 := (LA_xb L6).1
  have ex : eqc h6 hz x := by
    rcases xx with e | e
    · rw [e]; exact e_ 74 (by decide) (by decide) (by decide)
    · rw [e]; exact e_ 75 (by decide) (by decide) (by decide)
  have e73 := e_ 73 (by decide) (by decide) (by decide)
  refine ⟨x, xx, by rw [e73.2.2.2.2.1]; exact L6.2.1, by rw [e73.2.1, m6, z22], Or.inr ⟨z22, fun k hk => ?_, fun k hk q => ?_, ?_⟩⟩
  · rw [ex.2.2.2.1, L6.2.2.2 k hk, g _ (by omega), show ((k + 160 : Nat) : Int) - 300 = (k : Int) - 140 by omega]
  · rw [g k hk, S0 _ (by omega)]; rfl
  · obtain ⟨k, k1, k2, q⟩ := Z
    refine ⟨(k + 300).toNat, by omega, ?_⟩
    rw [g _ (by omega), show (((k + 300).toNat : Nat) : Int) - 300 = k by omega]
    exact q
theorem cF_168 (F : fcs h h1) (f : Nat) : ah_f (cF h1 f) 168 = ah_f h 168 := by
  unfold cF
  rw [f_si, f_sf_n _ _ _ _ _ (by decide)]
  exact (F.2.1 168 (by decide)).2.1
theorem cF_sl (F : fcs h h1) (f s : Nat) : sl h (cF h1 f) s := by
  have i_ : ∀ a, a ∉ Cscr → a ≠ 167 → ah_i (cF h1 f) a = ah_i h a := fun a ha a7 => by
    unfold cF
    rw [i_si_n _ _ _ _ _ a7, i_sf]
    exact (F.2.1 a ha).2.2.1
  exact sl_of s (i_ 170 (by decide) (by decide)) (i_ 171 (by decide) (by decide)) (i_ 172 (by decide) (by decide)) (i_ 173 (by decide) (by decide))
theorem st_bracket (x : R0 h W N B S len) (p : Int32) : ST yX11_bracket mX11_bracket yX12_bracket mX12_bracket (d + 18) (d + 6) [.int p] h bc bs W S len := by
  have K := x.2.1
  obtain ⟨h24, hN, hN2, hP⟩ := x.2.2.2.2.1
  obtain ⟨w, w6, hw, hw2⟩ := x.2.2.2.2.2.2.2.2.1
  have hv := hasP (p := p) hN h24
  refine X11_bracket_e (X11_bracket_0 ⟨o0 K, hasPC K p, fun z => ?_, fun z => ?_⟩)
  · have Rn := R1_cNo x.2 (fcs_refl h) (-nI 2)
    refine X11_bracket_20 ⟨fun w => absurd w (by decide), fun _ => ⟨o0 K, c_no K 2 (by decide) ⟨_, rfl, _, rfl, ?_⟩⟩⟩
    refine X12_bracket_e (X12_bracket_0 ⟨o168 Rn.1, X12_spends_e (X12_spends_0 ⟨o168 Rn.1, m_refusal_no Rn (hv.mp z) ⟨_, rfl, fun w => absurd w (by decide), fun _ => ⟨_, rfl, fun w => absurd w (by decide), fun _ => ⟨rfl, ?_⟩⟩⟩⟩)⟩)
    exact D_no x (fcs_refl h) (-nI 2) (fms_refl _)
  · have ip : ix p N := Classical.not_not.mp (fun w => z (hv.mpr w))
    obtain ⟨p0, hp0, ep⟩ := ix_of ip (by omega)
    subst ep
    refine c_why (d := d + 12) (lim := 14) x.2 hp0 (by decide) hw w6 (fun h1 n op F => ⟨_, rfl, ?_⟩) (fun h1 n l f wh F rf => ⟨_, rfl, ?_⟩) (fun h1 n l wh F l1 l2 LFh ne le lw => ⟨_, rfl, ?_⟩)
    · have Fc := fcs_fr F lkc7
      have Rf := R1_cF x.2 Fc 3
      obtain ⟨-, hn, h40, r, pl, r0, O⟩ := op
      refine X11_bracket_20 ⟨fun w => absurd w (by decide), fun _ => ⟨o0 (sp_fr K F), c_f (sp_fr K F) 3 (by decide) (by decide) ⟨_, rfl, _, rfl, ?_⟩⟩⟩
      refine X12_bracket_e (X12_bracket_0 ⟨o168 Rf.1, m_spends_open (lim := 14) Rf (kc_f Fc 3) hp0 hn h40 O r0 (fun h3 G3 => ⟨_, rfl, fun w => absurd w (by decide), fun _ => ⟨rfl, ?_⟩⟩)⟩)
      exact D_f x Fc (by decide) (by decide) G3
    · have Fc := fcs_fr F lkc7
      have Rf := R1_cF x.2 Fc f
      have f3 := RF_f rf
      have nz : ¬ (-nI (10 + f) = (0 : Int32)) ∧ ¬ (0 : Int32) ≤ -nI (10 + f) := by
        rcases f3 with e | e | e
        · subst e; decide
        · subst e; decide
        · subst e; decide
      refine X11_bracket_20 ⟨fun w => absurd w nz.1, fun _ => ⟨o0 (sp_fr K F), c_f (sp_fr K F) f (by omega) (by omega) ⟨_, rfl, _, rfl, ?_⟩⟩⟩
      refine X12_bracket_e (X12_bracket_0 ⟨o168 Rf.1, m_spends (lim := 14) (w := w) Rf.1 (by rw [cF_168 Fc]; exact hN2) h24 wh (cF_sl Fc f p0) (by decide) (by rw [cF_168 Fc]; exact hw2) w6 (fun h3 f' G3 F3 rf' => ⟨_, rfl, fun w => ?_, fun _ => ?_⟩) (fun h3 G3 F3 ne le lw => (RF_no rf ne le lw).elim)⟩)
      · rw [← RF_u rf rf'] at w
        exact absurd w nz.2
      · rw [← RF_u rf rf']
        exact ⟨rfl, D_f x Fc (by omega) (by omega) G3⟩
    · have K1 := sp_fr K F
      have hb : hb3 73 := Or.inl rfl
      have C1 := LAC_q x.2.2.1 F.1.2.2.1 F.1.2.2.2
      obtain ⟨xr, yr, e, r0, r1⟩ := LA_ex C1 hb
      have wh' := wh
      obtain ⟨-, hn, h40, h9, ⟨pl, O⟩, C, M, R⟩ := wh
      refine X11_bracket_20 ⟨fun _ => ⟨o0 K1, 32, r0_7 K1, 7, r0_4 K1, 73, r0_8 K1, o32 K1, c_makeBracket (d := d) (l := l) (w := w) K1 hb (lk7 K1) (by decide) R le h9 l1 l2 LFh.1 C1.2.1 (by rw [fr_f F 32 (by decide)]; exact hw) (LA_any e r0 r1) (fun h6 x6 y6 F6 L6 m6 w6' => ⟨rfl, ?_⟩)⟩, fun z => absurd rfl z⟩
      have K6 := sp_fB K1 hb F6
      refine ⟨o0 K6, 73, r0_8 K6, o73 K6, c_lcount K6 hb (LA_xb L6).1 L6.2.1 ⟨_, rfl, o0 K6, grC K6 _, fun h15 e15 => ⟨_, rfl, ?_⟩⟩⟩
      rw [grV]
      rw [grH] at e15
      rw [e15]
      obtain ⟨Kc, Cc, nc, Ec, f0c, -⟩ := B_see x hb F F6 L6
      have fc : ah_f (cNo h6 (nI 0)) 168 = ah_f h 168 := (Ec 168 (by decide) (by decide) (by decide) (by decide) (by decide) (by decide)).2.1
      have ic : ∀ a, a = 170 ∨ a = 171 ∨ a = 172 ∨ a = 173 → ah_i (cNo h6 (nI 0)) a = ah_i h a := fun a ha => (Ec a (by omega) (fun q => by have := (by decide : ∀ a, a ∈ Cscr → a < 125) a q; omega) (by omega) (by omega) (by omega) (by omega)).2.2.1
      have slc : sl h (cNo h6 (nI 0)) p0 := sl_of p0 (ic 170 (by omega)) (ic 171 (by omega)) (ic 172 (by omega)) (ic 173 (by omega))
      refine X12_bracket_e (X12_bracket_0 ⟨o168 Kc, m_spends (lim := 14) (w := w) Kc (by rw [fc]; exact hN2) h24 wh' slc (by decide) (by rw [fc]; exact hw2) w6 (fun h3 f' G3 F3 rf' => (RF_no rf' ne le lw).elim) (fun h3 G3 F3 _ _ _ => ⟨_, rfl, fun _ => ?_, fun w => absurd (show (0 : Int32) ≤ nI 0 by decide) w⟩)⟩)
      have K3 := G3.2.2.1 Kc
      have M3 := mD_sl (mD_sl M h40 slc) h40 (G3.2.2.2.2 p0 (by omega))
      refine ⟨o168 K3, m_bracketOf (d := d + 4) (w := w) K3 R (by omega) M3 le h9 (by rw [G3.2.2.2.1 23 (by decide), fc]; exact hw2) (fun h5 F5 f5 _ L5 => ⟨rfl, ?_⟩)⟩
      have K5 := sp_fr K3 F5
      refine ⟨o168 K5, m_shown (d := d + 4) K5 (fun h7 F7 g7 => ⟨_, rfl, ?_, ?_⟩)⟩
      · rw [ct_281 (sup140_brk le (by omega)) L5 L6.2.2.2]
      · have key : ∀ hz, hz = mNo (ah_sf h7 168 22 (nI 1)) (nI 0) → DONE h hz W S len := by
          intro hz ez
          have Fz : fr [168, 186] h5 hz := by rw [ez]; unfold mNo; exact fr_sf (fr_sf (fr_mono F7 (by decide)) (by decide)) (by decide)
          have fz : ah_f hz 168 = u1 (u1 (ah_f h7 168) 22 (nI 1)) 0 (nI 0) := by rw [ez]; unfold mNo; rw [f_sf_s, f_sf_s]
          have lz : ah_l hz 186 = ah_l h7 186 := by rw [ez]; unfold mNo; rw [l_sf, l_sf]
          have F5' : fr mlL h3 h5 := fr_mono F5 (by decide)
          exact D_brk x hb F F6 L6 w6' lw G3 F3 F5' f5 Fz (fun k k0 k22 => by rw [fz, u1_n _ _ k0, u1_n _ _ k22, fr_f F7 168 (by decide)]) (by rw [fz, u1_s]) (RS_brk L6 m6 (sup140_brk le (by omega)) (NZ_brk R le h9 ne).1 G3 F5' Fz (by rw [fz, u1_n _ _ (by decide), u1_s]) (fun i hi => by rw [lz, g7 i hi]; exact L5 i hi))
        exact key _ rfl
theorem st_polynomial (x : R0 h W N B S len) (p : Int32) : ST yX11_polynomial mX11_polynomial yX12_polynomial mX12_polynomial (d + 19) (d + 6) [.int p] h bc bs W S len := by
  have K := x.2.1
  obtain ⟨h24, hN, hN2, hP⟩ := x.2.2.2.2.1
  obtain ⟨w, w6, hw, hw2⟩ := x.2.2.2.2.2.2.2.2.1
  have hv := hasP (p := p) hN h24
  refine X11_polynomial_e (X11_polynomial_0 ⟨o0 K, hasPC K p, fun z => ?_, fun z => ?_⟩)
  · have Rn := R1_cNo x.2 (fcs_refl h) (-nI 2)
    refine X11_polynomial_20 ⟨fun w => absurd w (by decide), fun _ => ⟨o0 K, c_no K 2 (by decide) ⟨_, rfl, _, rfl, ?_⟩⟩⟩
    refine X12_polynomial_e (X12_polynomial_0 ⟨o168 Rn.1, X12_spends_e (X12_spends_0 ⟨o168 Rn.1, m_refusal_no Rn (hv.mp z) ⟨_, rfl, fun w => absurd w (by decide), fun _ => ⟨_, rfl, fun w => absurd w (by decide), fun _ => ⟨rfl, ?_⟩⟩⟩⟩)⟩)
    exact D_no x (fcs_refl h) (-nI 2) (fms_refl _)
  · have ip : ix p N := Classical.not_not.mp (fun w => z (hv.mpr w))
    obtain ⟨p0, hp0, ep⟩ := ix_of ip (by omega)
    subst ep
    refine c_why (d := d + 13) (lim := 14) x.2 hp0 (by decide) hw w6 (fun h1 n op F => ⟨_, rfl, ?_⟩) (fun h1 n l f wh F rf => ⟨_, rfl, ?_⟩) (fun h1 n l wh F l1 l2 LFh ne le lw => ⟨_, rfl, ?_⟩)
    · have Fc := fcs_fr F lkc7
      have Rf := R1_cF x.2 Fc 3
      obtain ⟨-, hn, h40, r, pl, r0, O⟩ := op
      refine X11_polynomial_20 ⟨fun w => absurd w (by decide), fun _ => ⟨o0 (sp_fr K F), c_f (sp_fr K F) 3 (by decide) (by decide) ⟨_, rfl, _, rfl, ?_⟩⟩⟩
      refine X12_polynomial_e (X12_polynomial_0 ⟨o168 Rf.1, m_spends_open (lim := 14) Rf (kc_f Fc 3) hp0 hn h40 O r0 (fun h3 G3 => ⟨_, rfl, fun w => absurd w (by decide), fun _ => ⟨rfl, ?_⟩⟩)⟩)
      exact D_f x Fc (by decide) (by decide) G3
    · have Fc := fcs_fr F lkc7
      have Rf := R1_cF x.2 Fc f
      have f3 := RF_f rf
      have nz : ¬ (-nI (10 + f) = (0 : Int32)) ∧ ¬ (0 : Int32) ≤ -nI (10 + f) := by
        rcases f3 with e | e | e
        · subst e; decide
        · subst e; decide
        · subst e; decide
      refine X11_polynomial_20 ⟨fun w => absurd w nz.1, fun _ => ⟨o0 (sp_fr K F), c_f (sp_fr K F) f (by omega) (by omega) ⟨_, rfl, _, rfl, ?_⟩⟩⟩
      refine X12_polynomial_e (X12_polynomial_0 ⟨o168 Rf.1, m_spends (lim := 14) (w := w) Rf.1 (by rw [cF_168 Fc]; exact hN2) h24 wh (cF_sl Fc f p0) (by decide) (by rw [cF_168 Fc]; exact hw2) w6 (fun h3 f' G3 F3 rf' => ⟨_, rfl, fun w => ?_, fun _ => ?_⟩) (fun h3 G3 F3 ne le lw => (RF_no rf ne le lw).elim)⟩)
      · rw [← RF_u rf rf'] at w
        exact absurd w nz.2
      · rw [← RF_u rf rf']
        exact ⟨rfl, D_f x Fc (by omega) (by omega) G3⟩
    · have K1 := sp_fr K F
      have hb : hb3 73 := Or.inl rfl
      have C1 := LAC_q x.2.2.1 F.1.2.2.1 F.1.2.2.2
      obtain ⟨xr, yr, e, r0, r1⟩ := LA_ex C1 hb
      have wh' := wh
      obtain ⟨-, hn, h40, h9, ⟨pl, O⟩, C, M, R⟩ := wh
      obtain ⟨wv, v1, v2, ev⟩ := wr_i n (mt n (AN (ah_i h (B p0 + 2)))) n
      refine X11_polynomial_20 ⟨fun _ => ⟨o0 K1, 32, r0_7 K1, 7, r0_4 K1, 73, r0_8 K1, o32 K1, c_makePolynomial (d := d) (l := l) (w := w) (wv := wv) K1 hb (Or.inl rfl) R le h9 l1 l2 LFh.1 C1.2.1 (by rw [fr_f F 32 (by decide)]; exact hw) (LA_any e r0 r1) (LFh.2.2.2.2.2.2.2.2.trans ev) (by omega) (by omega) (fun h6 x6 y6 F6 L6 m6 w6' => ⟨rfl, ?_⟩)⟩, fun z => absurd rfl z⟩
      have K6 := sp_fB K1 hb F6
      refine ⟨o0 K6, 73, r0_8 K6, o73 K6, c_lcount K6 hb (LA_xb L6).1 L6.2.1 ⟨_, rfl, o0 K6, grC K6 _, fun h15 e15 => ⟨_, rfl, ?_⟩⟩⟩
      rw [grV]
      rw [grH] at e15
      rw [e15]
      obtain ⟨Kc, Cc, nc, Ec, f0c, -⟩ := B_see x hb F F6 L6
      have fc : ah_f (cNo h6 (nI 0)) 168 = ah_f h 168 := (Ec 168 (by decide) (by decide) (by decide) (by decide) (by decide) (by decide)).2.1
      have ic : ∀ a, a = 170 ∨ a = 171 ∨ a = 172 ∨ a = 173 → ah_i (cNo h6 (nI 0)) a = ah_i h a := fun a ha => (Ec a (by omega) (fun q => by have := (by decide : ∀ a, a ∈ Cscr → a < 125) a q; omega) (by omega) (by omega) (by omega) (by omega)).2.2.1
      have slc : sl h (cNo h6 (nI 0)) p0 := sl_of p0 (ic 170 (by omega)) (ic 171 (by omega)) (ic 172 (by omega)) (ic 173 (by omega))
      refine X12_polynomial_e (X12_polynomial_0 ⟨o168 Kc, m_spends (lim := 14) (w := w) Kc (by rw [fc]; exact hN2) h24 wh' slc (by decide) (by rw [fc]; exact hw2) w6 (fun h3 f' G3 F3 rf' => (RF_no rf' ne le lw).elim) (fun h3 G3 F3 _ _ _ => ⟨_, rfl, fun _ => ?_, fun w => absurd (show (0 : Int32) ≤ nI 0 by decide) w⟩)⟩)
      have K3 := G3.2.2.1 Kc
      have M3 := mD_sl (mD_sl M h40 slc) h40 (G3.2.2.2.2 p0 (by omega))
      refine ⟨o168 K3, m_polynomialOf (d := d + 2) (w := w) (wv := wv) K3 R (by omega) M3 le h9 (by rw [G3.2.2.2.1 23 (by decide), fc]; exact hw2) ev (by omega) (by omega) (fun h5 F5 f5 L5 => ⟨rfl, ?_⟩)⟩
      have K5 := sp_fr K3 F5
      refine ⟨o168 K5, m_shown (d := d + 4) K5 (fun h7 F7 g7 => ⟨_, rfl, ?_, ?_⟩)⟩
      · rw [ct_281 (sup140_lev le h9 (by omega) (by omega)) L5 L6.2.2.2]
      · have key : ∀ hz, hz = mNo (ah_sf h7 168 22 (nI 1)) (nI 0) → DONE h hz W S len := by
          intro hz ez
          have Fz : fr [168, 186] h5 hz := by rw [ez]; unfold mNo; exact fr_sf (fr_sf (fr_mono F7 (by decide)) (by decide)) (by decide)
          have fz : ah_f hz 168 = u1 (u1 (ah_f h7 168) 22 (nI 1)) 0 (nI 0) := by rw [ez]; unfold mNo; rw [f_sf_s, f_sf_s]
          have lz : ah_l hz 186 = ah_l h7 186 := by rw [ez]; unfold mNo; rw [l_sf, l_sf]
          have F5' : fr mlL h3 h5 := fr_mono F5 (by decide)
          exact D_brk x hb F F6 L6 w6' lw G3 F3 F5' f5 Fz (fun k k0 k22 => by rw [fz, u1_n _ _ k0, u1_n _ _ k22, fr_f F7 168 (by decide)]) (by rw [fz, u1_s]) (RS_brk L6 m6 (sup140_lev le h9 (by omega) (by omega)) (NZ_lev R le h9 ne (by omega) (by omega)) G3 F5' Fz (by rw [fz, u1_n _ _ (by decide), u1_s]) (fun i hi => by rw [lz, g7 i hi]; exact L5 i hi))
        exact key _ rfl
end BSTEP
