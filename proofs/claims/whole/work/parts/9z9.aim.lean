/-! same: aimAt, takeAim; both sides up to the search. -/
def amL : List Nat := [125, 127, 128, 129, 130, 131, 132, 133, 153, 154, 155, 156, 163]
/-- what comes of the parting: by v, with the work w' spent behind it -/
def OUTC (na la : Nat) (ma sa : Nat → Nat) (wa : Int) (nb lb : Nat) (mb sb : Nat → Nat) (wb : Int) (w v w' : Nat) : Prop := (PBo na la ma sa nb lb mb sb v ∧ v < 6 ∧ w' = w) ∨ (PBo na la ma sa nb lb mb sb 6 ∧ nb ≤ 14 ∧ w' = w + 2 ^ na + 2 ^ nb ∧ w' ≤ 1000000 ∧ ((v = 0 ∧ POL na la ma wa nb lb mb wb) ∨ (v = 6 ∧ ¬ POL na la ma wa nb lb mb wb)))
/-- the reference behind it -/
def FN (w : Nat) (h h' : AH) : Prop := ah_n h' = ah_n h ∧ (∀ a, a ∉ Mscr → eqc h h' a) ∧ sp h' ∧ (∀ k, k ≠ 9 → k ≠ 23 → ah_f h' 168 k = ah_f h 168 k) ∧ (∀ s, s < 364 → sl h h' s) ∧ ah_f h' 168 23 = nI w
section AIM
variable {h h1 h2 h' hz : AH} {d bc bs : Nat} {Q : Option Value → AH → Prop} {W W' : Nat → Nat} {N : Nat} {B : Nat → Nat} {S : Nat → Int32} {len : Nat} {u c cu s e f n l na la nb lb w : Nat} {A Ab ma sa mb sb : Nat → Nat} {D : SD} {G : Nat → Nat → (Nat → Nat) → Prop} {st : Int32}
theorem CI_am {f' : Nat} (x : CI h W u c D cu s e f NG st) (F : fr amL h h') (fj : ∀ j, j ≠ 10 → j ≠ 15 → ah_f h' 125 j = ah_f h 125 j) (sa_ : SA h' G) (f0 : f' = 0 → ah_f h' 125 15 = m1) (f1 : f' = 1 → ah_f h' 125 15 = nI (c - 1)) : CI h' W u c D cu s e f' G st := by
  obtain ⟨x1, x2, ⟨b1, ⟨d1, d2, d3, d4⟩, b3, b4⟩, x4, x5, x6, x7, x8, x9⟩ := x
  refine ⟨sp_fr x1 F, SK_fr x2 F (by decide) (fj 11 (by decide) (by decide)), ⟨(fj 13 (by decide) (by decide)).trans b1, ⟨by rw [fr_f F 136 (by decide)]; exact d1, by rw [fr_f F 136 (by decide)]; exact d2, fun c hc => by rw [fr_i F 137 (by decide)]; exact d3 c hc, fun e he => by rw [fr_i F 138 (by decide)]; exact d4 e he⟩, by rw [fr_f F 142 (by decide)]; exact b3, fun e he => by rw [fr_i F 143 (by decide)]; exact b4 e he⟩, (fj 14 (by decide) (by decide)).trans x4, sa_, (fj 9 (by decide) (by decide)).trans x6, (fj 12 (by decide) (by decide)).trans x7, f0, f1⟩
theorem c_aimAt {b : Nat} (x : CI h W u 1 (fun _ => (n, l, A, 0, 0)) 0 0 0 0 NG st) (gd : GDp n l A) (P : pt h b) (hb : 216 ≤ b) (C : cD h b nb lb Ab) (n40 : nb ≤ 40) (lb9 : lb ≤ 9) (Rb : Pr nb Ab (mt nb Ab)) (kk : ∀ h' f, fr amL h h' → (∀ j, j ≠ 10 → j ≠ 15 → ah_f h' 125 j = ah_f h 125 j) → ((f = 1 ∧ AK n l A nb lb Ab) ∨ (f = 0 ∧ ¬ AK n l A nb lb Ab)) → CI h' W u 1 (fun _ => (n, l, A, 0, 0)) 0 0 0 f (fun n' l' A' => AK n' l' A' nb lb Ab) st → Q none h') : ex_S yX8_aimAt mX8_aimAt (d + 4) [.ref 125, .ref b] h bc bs Q := by
  have x0 := x
  have h12 := gd.1
  have K := x.1
  have v15 : ah_f h 125 15 = m1 := x.2.2.2.2.2.2.2.1 rfl
  have c12 : (12 : Int32) < nI nb ↔ 12 < nb := nI_ltI (a := 12) (by omega) (by omega)
  refine X8_aimAt_e (X8_aimAt_0 ⟨pt_o P, ?_⟩)
  rw [C.1, c12]
  refine ⟨fun gt => X8_aimAt_15 ⟨o125 K, Or.inl rfl, fun h2 e2 => ?_⟩, fun le => X8_aimAt_15 ⟨o125 K, Or.inr rfl, fun h2 e2 => ?_⟩⟩
  · obtain ⟨F2, f2, K2, -⟩ := CI_f x0 e2
    have fj : ∀ j, j ≠ 10 → j ≠ 15 → ah_f h2 125 j = ah_f h 125 j := fun j j1 _ => by rw [f2, u1_n _ _ j1]
    have g10 : ah_f h2 125 10 = 0 := by rw [f2, u1_s]
    have na_ : ¬ AK n l A nb lb Ab := fun ak => by have := ak.2.1; omega
    exact ⟨o125 K2, fun w => absurd g10 w, fun _ => kk h2 0 (fr_mono F2 (by decide)) fj (Or.inr ⟨rfl, na_⟩) (CI_am x0 (fr_mono F2 (by decide)) fj (Or.inl ⟨g10, fun n' l' A' hn ak => by have := ak.2.1; omega⟩) (fun _ => by rw [f2, u1_n _ _ (by decide)]; exact v15) (fun z => absurd z (by decide)))⟩
  · obtain ⟨F2, f2, K2, -⟩ := CI_f x0 e2
    have g10 : ah_f h2 125 10 = 1 := by rw [f2, u1_s]
    have gb : GDp nb lb Ab := ⟨by omega, lb9, Rb⟩
    have C2 : cD h2 b nb lb Ab := cD_sc C F2 (by simp only [List.mem_cons, List.not_mem_nil, or_false]; omega)
    refine ⟨o125 K2, fun _ => ⟨153, r125_7 K2, o153 K2, ?_⟩, fun w => absurd (g10.symm.trans w) (by decide)⟩
    refine c_pairUp (d := d + 2) (lk153 K2) (pt_fr P F2) (Or.inr (by omega)) C2.1 C2.2.1 n40 C2.2.2.2 Rb (fun h7 F7 g1 g2 g3 g4 => ⟨rfl, ?_⟩)
    have K7 := sp_fr K2 F7
    refine ⟨o125 K7, 153, r125_7 K7, o153 K7, c_findRegions (A := Ab) (d := d + 1) (lk153 K7) n40 g1 g4 Rb (fun h11 F11 r1 r2 r3 => ⟨rfl, ?_⟩)⟩
    have K11 := sp_fr K7 F11
    have F0 : fr [153, 154, 155, 156, 163] h2 h11 := fr_trans (fr_mono F7 (by decide)) (fr_mono F11 (by decide))
    have C11 : cD h11 b nb lb Ab := cD_sc C2 F0 (by simp only [List.mem_cons, List.not_mem_nil, or_false]; omega)
    have i154 : ah_i h11 154 = ah_i h7 154 := fr_i F11 154 (by decide)
    refine ⟨o125 K11, 127, r125_1 K11, 153, r125_7 K11, o127 K11, c_hold (A := Ab) (n := nb) (l := lb) (d := d + 2) (so127 K11) (pt_fr (pt_fr P F2) F0) (lk153 K11) (Or.inl (by omega)) (Or.inl (by decide)) (by omega) C11.1 C11.2.1 C11.2.2.2 (by rw [r2 10 (by decide)]; exact g1) (fun e he => by rw [i154]; exact g4 e he) Rb r3 (by decide) (fun h16 F16 d16 => ⟨rfl, ?_⟩)⟩
    have K16 := sp_fr K11 F16
    have F16' : fr amL h h16 := fr_trans (fr_mono F2 (by decide)) (fr_trans (fr_mono F0 (by decide)) (fr_mono F16 (by decide)))
    have f16 : ah_f h16 125 = u1 (ah_f h 125) 10 1 := by rw [fr_f F16 125 (by decide), fr_f F0 125 (by decide), f2]
    have fj16 : ∀ j, j ≠ 10 → j ≠ 15 → ah_f h16 125 j = ah_f h 125 j := fun j j1 _ => by rw [f16, u1_n _ _ j1]
    have sk16 := SK_fr x.2.1 F16' (by decide) (fj16 11 (by decide) (by decide))
    obtain ⟨a, ya⟩ := sk16.2.2.2 0 (by omega)
    have a0 := ya.2.1.1
    have sv := shV ya.2.2.1 d16 gd gb
    have sa16 : SA h16 (fun n' l' A' => AK n' l' A' nb lb Ab) := Or.inr ⟨by rw [f16, u1_s], nb, lb, Ab, gb, d16, fun _ _ _ => Iff.rfl⟩
    have c16 : ah_f h16 125 15 = m1 := by rw [f16, u1_n _ _ (by decide)]; exact v15
    refine ⟨o125 K16, 126, r125_0 K16, (s126 K16 _).mpr ((ix_nI (i := 0) (by decide)).mpr (by decide)), a, ya.1, 127, r125_1 K16, ya.2.1.2.1.2.1, ⟨ya.2.1.2.1.2.1, o127 K16, trivial⟩, fun z => ?_, fun z => ?_⟩
    · exact kk h16 0 F16' fj16 (Or.inr ⟨rfl, sv.1 z⟩) (CI_am x0 F16' fj16 sa16 (fun _ => c16) (fun q => absurd q (by decide)))
    · obtain ⟨en, el⟩ := sv.2 z
      have en' : n = nb := en
      have el' : l = lb := el
      refine ⟨130, r125_2 K16, a, ya.1, ya.2.1.2.1.2.1, a + 2, ya.2.1.2.1.2.2.2.1, o127 K16, 129, r127_1 K16, o130 K16, ?_⟩
      rw [d16.1]
      have b1 := ya.2.1.2.1.1
      have M1 : MA h16 nb (a + 2) (mt n A) := ⟨⟨48, ya.2.1.2.1.2.2.2.2.2, by omega⟩, by omega, lkS_no (by omega), fun e he => ya.2.2.1.2.2.2.2 e (by show e < 4 * n; omega)⟩
      have M2 : MA h16 nb 129 (mt nb Ab) := ⟨⟨48, sp_x K16 129 (by decide) rfl, by omega⟩, by decide, by decide, fun e he => d16.2.2.2.2 e he⟩
      have iv1 : IV nb (mt n A) := by rw [← en']; exact gd.2.2.iv
      refine c_likeH (d := d) K16 n40 iv1 Rb.iv M1 M2 (fun iso h32 F32 => ⟨_, rfl, fun w => absurd w (by decide), fun _ => ⟨o125 (sp_fr K16 F32), fun h37 e37 => ?_⟩⟩) (fun ni h32 F32 => ⟨_, rfl, fun _ => ?_, fun w => absurd rfl w⟩)
      · have ak : AK n l A nb lb Ab := ⟨el', en', by rw [en']; rw [en'] at iso; exact iso⟩
        have F37 : fr amL h h37 := by rw [e37]; exact fr_sf (fr_trans F16' (fr_mono F32 (by decide))) (by decide)
        have f37 : ah_f h37 125 = u1 (ah_f h16 125) 15 0 := by rw [e37, f_sf_s, fr_f F32 125 (by decide)]
        have i37 : ah_i h37 = ah_i h32 := by rw [e37, i_sf]
        have g37 : ah_f h37 127 = ah_f h32 127 := by rw [e37, f_sf_n _ _ _ _ _ (by decide)]
        clear e37
        have fj37 : ∀ j, j ≠ 10 → j ≠ 15 → ah_f h37 125 j = ah_f h 125 j := fun j j1 j2 => by rw [f37, u1_n _ _ j2]; exact fj16 j j1 j2
        have d37 : sD h37 127 nb lb Ab := sD_eq d16 (by rw [g37, fr_f F32 127 (by decide)]) (by rw [i37]; exact fr_i F32 128 (by decide)) (by rw [i37]; exact fr_i F32 129 (by decide))
        exact kk h37 1 F37 fj37 (Or.inl ⟨rfl, ak⟩) (CI_am x0 F37 fj37 (Or.inr ⟨by rw [f37, u1_n _ _ (by decide), f16, u1_s], nb, lb, Ab, gb, d37, fun _ _ _ => Iff.rfl⟩) (fun q => absurd q (by decide)) (fun _ => by rw [f37, u1_s]; rfl))
      · have F32' : fr amL h h32 := fr_trans F16' (fr_mono F32 (by decide))
        have fj32 : ∀ j, j ≠ 10 → j ≠ 15 → ah_f h32 125 j = ah_f h 125 j := fun j j1 j2 => by rw [fr_f F32 125 (by decide)]; exact fj16 j j1 j2
        have d32 : sD h32 127 nb lb Ab := sD_eq d16 (fr_f F32 127 (by decide)) (fr_i F32 128 (by decide)) (fr_i F32 129 (by decide))
        have nak : ¬ AK n l A nb lb Ab := fun ak => by
          have := ak.2.2
          rw [en'] at this ni
          exact ni this
        exact kk h32 0 F32' fj32 (Or.inr ⟨rfl, nak⟩) (CI_am x0 F32' fj32 (Or.inr ⟨by rw [fr_f F32 125 (by decide), f16, u1_s], nb, lb, Ab, gb, d32, fun _ _ _ => Iff.rfl⟩) (fun _ => by rw [fr_f F32 125 (by decide)]; exact c16) (fun q => absurd q (by decide)))
theorem c_takeAim {L : Nat} {Fc V : Nat → Nat} (x : CI h W u c D cu s e f G st) (f01 : f ≤ 1) (c0 : 0 < c) (eF : Fc = fun k => (D k).2.2.2.1) (eV : V = fun k => (D k).2.2.2.2) (l1 : L ≤ c - 1) (l2 : chn Fc (c - 1) L = 0) (l3 : ∀ i, i < L → 0 < chn Fc (c - 1) i ∧ chn Fc (c - 1) i < c) (kk : ∀ h', fr [125, 134, 135] h h' → ah_f h' 125 8 = ah_f h 125 8 → CI h' W u c D cu s e 0 NG st → (f = 1 → ah_f h' 134 1 = nI L ∧ ∀ j, j < L → ah_i h' 135 j = nI (V (chn Fc (c - 1) (L - 1 - j)))) → (f = 0 → ah_f h' 134 = ah_f h 134 ∧ ah_i h' 135 = ah_i h 135) → Q (some (.int (nI f))) h') : ex_S yX8_takeAim mX8_takeAim (d + 2) [.ref 125] h bc bs Q := by
  have x0 := x
  have K := x.1
  have c100 : c ≤ 100 := Nat.le_trans x.2.1.2.1 x.2.1.1.1
  -- aiming and found are set back
  have back : ∀ h7, fr [134, 135] h h7 → (f = 1 → ah_f h7 134 1 = nI L ∧ ∀ j, j < L → ah_i h7 135 j = nI (V (chn Fc (c - 1) (L - 1 - j)))) → (f = 0 → ah_f h7 134 = ah_f h 134 ∧ ah_i h7 135 = ah_i h 135) → ∀ h3, h3 = ah_sf h7 125 10 0 → ∀ h4, h4 = ah_sf h3 125 15 (-1) → Q (some (.int (nI f))) h4 := by
    intro h7 F7 w1 w0 h3 e3 h4 e4
    obtain ⟨x1, x2, ⟨b1, ⟨d1, d2, d3, d4⟩, b3, b4⟩, x4, x5, x6, x7, x8, x9⟩ := x
    have F4 : fr [125, 134, 135] h h4 := by rw [e4, e3]; exact fr_sf (fr_sf (fr_mono F7 (by decide)) (by decide)) (by decide)
    have f4 : ah_f h4 125 = u1 (u1 (ah_f h 125) 10 0) 15 (-1) := by rw [e4, f_sf_s, e3, f_sf_s, fr_f F7 125 (by decide)]
    have g4 : ah_f h4 134 = ah_f h7 134 := by rw [e4, f_sf_n _ _ _ _ _ (by decide), e3, f_sf_n _ _ _ _ _ (by decide)]
    have i4 : ah_i h4 = ah_i h7 := by rw [e4, i_sf, e3, i_sf]
    clear e4 e3
    have fj : ∀ j, j ≠ 10 → j ≠ 15 → ah_f h4 125 j = ah_f h 125 j := fun j j1 j2 => by rw [f4, u1_n _ _ j2, u1_n _ _ j1]
    refine kk h4 F4 (fj 8 (by decide) (by decide)) ⟨sp_fr x1 F4, SK_fr x2 F4 (by decide) (fj 11 (by decide) (by decide)), ⟨(fj 13 (by decide) (by decide)).trans b1, ⟨by rw [fr_f F4 136 (by decide)]; exact d1, by rw [fr_f F4 136 (by decide)]; exact d2, fun c hc => by rw [fr_i F4 137 (by decide)]; exact d3 c hc, fun e he => by rw [fr_i F4 138 (by decide)]; exact d4 e he⟩, by rw [fr_f F4 142 (by decide)]; exact b3, fun e he => by rw [fr_i F4 143 (by decide)]; exact b4 e he⟩, (fj 14 (by decide) (by decide)).trans x4, Or.inl ⟨by rw [f4, u1_n _ _ (by decide), u1_s], fun _ _ _ _ z => z⟩, (fj 9 (by decide) (by decide)).trans x6, (fj 12 (by decide) (by decide)).trans x7, fun _ => by rw [f4, u1_s]; rfl, fun z => absurd z (by decide)⟩ (fun z => by rw [g4, i4]; exact w1 z) (fun z => by rw [g4, i4]; exact w0 z)
  refine X8_takeAim_e (X8_takeAim_0 ⟨o125 K, ?_⟩)
  by_cases f1 : f = 1
  · have v15 := x.2.2.2.2.2.2.2.2 f1
    subst f1
    rw [v15]
    refine ⟨fun z => absurd ((nI_ltI (b := 0) (by omega) (by omega)).mp z) (by omega), fun _ => X8_takeAim_12 ⟨fun z => absurd z (by decide), fun _ => ⟨o125 K, ?_⟩⟩⟩
    rw [v15]
    refine c_tellWays (d := d) (L := L) eF eV K x.2.1 l1 (by omega) l2 l3 (fun h7 F7 f7 w7 => ⟨rfl, o125 (sp_fr K F7), fun h9 e9 h10 e10 => ⟨Or.inr rfl, ?_⟩⟩)
    exact back h7 F7 (fun _ => ⟨f7, w7⟩) (fun z => absurd z (by decide)) h9 e9 h10 e10
  · have f0 : f = 0 := by omega
    have v15 := x.2.2.2.2.2.2.2.1 f0
    subst f0
    rw [v15]
    exact ⟨fun _ => X8_takeAim_12 ⟨fun _ => ⟨o125 K, fun h3 e3 h4 e4 => ⟨Or.inl rfl, back h (fr_refl _ h) (fun z => absurd z (by decide)) (fun _ => ⟨rfl, rfl⟩) h3 e3 h4 e4⟩⟩, fun z => absurd rfl z⟩, fun z => absurd (show m1 < (0 : Int32) by decide) z⟩
theorem CNf_fcs (K : sp h) (L : LAC h) (hw : ah_f h 32 3 = nI w) (w6 : w ≤ 1000000) (F : fcs h h') : CNf w h h' := ⟨F.1, fun a a1 _ => F.2.1 a a1, F.2.2.1 K, F.2.2.2 L, by rw [(F.2.1 32 (by decide)).2.1]; exact hw, w6⟩
theorem CNf_trans (L : LAC h) (F : fcs h h1) (x : CNf w h1 h2) : CNf w h h2 := ⟨x.1.trans F.1, fun a a1 a2 => eqc_trans (F.2.1 a a1) (x.2.1 a a1 a2), x.2.2⟩
theorem FN_fms (K : sp h) (hw : ah_f h 168 23 = nI w) (F : fms h h') : FN w h h' := ⟨F.1, F.2.1, F.2.2.1 K, fun k k1 _ => F.2.2.2.1 k k1, F.2.2.2.2, by rw [F.2.2.2.1 23 (by decide)]; exact hw⟩
/-- the reference from its start to where it sets 'parted' -/
theorem m_sameA {p q lim v w' : Nat} {wa wb : Int} {h0 : AH} (K : sp hz) (h24 : N ≤ 24) (hN2 : ah_f hz 168 6 = nI N) (slz : ∀ t, sl h0 hz t) (wh1 : WH h0 N B p na la) (wh2 : WH h0 N B q nb lb) (n12 : na ≤ 12) (hlim : lim < 5001) (ha : SOx na (mt na (AN (ah_i h0 (B p + 2)))) sa) (hb : SOx nb (mt nb (AN (ah_i h0 (B q + 2)))) sb) (hw : ah_f hz 168 23 = nI w) (w6 : w ≤ 1000000) (ea : wr na (mt na (AN (ah_i h0 (B p + 2)))) na = iI wa) (eb : wr nb (mt nb (AN (ah_i h0 (B q + 2)))) nb = iI wb) (va : -(na : Int) ≤ wa ∧ wa ≤ na) (vb : -(nb : Int) ≤ wb ∧ wb ≤ nb)
    (oc : OUTC na la (mt na (AN (ah_i h0 (B p + 2)))) sa wa nb lb (mt nb (AN (ah_i h0 (B q + 2)))) sb wb w v w')
    (kk : ∀ hm, FN w' hz hm → ex_G mX12_same (d + 5) 142 [.ref 168, .int (nI p), .int (nI q), .int (nI lim), .int (nI v), .retAddr 0] [] hm bc bs Q) : ex_S yX12_same mX12_same (d + 5) [.ref 168, .int (nI p), .int (nI q), .int (nI lim)] hz bc bs Q := by
  have hp0 := wh1.1
  have hq0 := wh2.1
  have h41 := wh1.2.2.1
  have h42 := wh2.2.2.1
  have iv := isP_ (h := hz) (p := nI p) (N := N) hN2 h24
  have iv2 := isP_ (h := hz) (p := nI q) (N := N) hN2 h24
  have iv3 := in5000 (v := nI lim) hz
  have z00 : (nI 0 : Int32) ≤ 0 := by decide
  refine X12_same_e (X12_same_0 ⟨o168 K, isPC K _, fun w => absurd ((ix_nI (by omega)).mpr hp0) (iv.mp w), fun _ => ⟨isPC K _, fun w => absurd ((ix_nI (by omega)).mpr hq0) (iv2.mp w), fun _ => ⟨fun _ => ?_, fun w => absurd ((ix_nI (by omega)).mpr hlim) (iv3.mp w)⟩⟩⟩)
  refine m_open_whole (d := d + 1) wh1 h24 K (slz p) (fun h11 G11 g11 => ⟨_, rfl, fun w => absurd w (by decide), fun _ => ⟨o168 (G11.2.2.1 K), ?_⟩⟩)
  have K11 := G11.2.2.1 K
  refine m_open_whole (d := d + 1) wh2 h24 K11 (sl_trans (slz q) (G11.2.2.2.2 q (by omega))) (fun h17 G17 g17 => ⟨_, rfl, fun _ => ⟨o168 (G17.2.2.1 K11), 170, r168_2 (G17.2.2.1 K11), ?_⟩, fun w => absurd z00 w⟩)
  have K17 := G17.2.2.1 K11
  have G17' := fms_trans G11 G17
  have M1 := mD_sl (mD_sl wh1.2.2.2.2.2.2.1 h41 (slz p)) h41 (G17'.2.2.2.2 p (by omega))
  have M2 := mD_sl (mD_sl wh2.2.2.2.2.2.2.1 h42 (slz q)) h42 (G17'.2.2.2.2 q (by omega))
  have R1_ := wh1.2.2.2.2.2.2.2
  have R2_ := wh2.2.2.2.2.2.2.2
  have c12 : nI na ≤ (12 : Int32) ↔ na ≤ 12 := nI_leI (b := 12) (by omega) (by omega)
  rw [nI_clamp (by omega), M1.1, c12]
  refine ⟨(s170 K17 _).mpr ((ix_nI (by omega)).mpr (by omega)), fun _ => ?_, fun w => absurd n12 w⟩
  rcases oc with ⟨po, v6, ew⟩ | ⟨po, b14, ew, lw, pol⟩
  · subst ew
    refine m_partsBy (d := d + 2) (v := v) K17 (by omega) (by omega) M1 M2 R1_ R2_ n12 h42 wh1.2.2.2.1 wh2.2.2.2.1 ha hb po (fun h25 G25 => ⟨_, rfl, fun _ => kk h25 (FN_fms K hw (fms_trans G17' G25)), fun w => absurd ((nI_eq (b := 6) (by omega) (by omega)).mp w) (by omega)⟩)
  · refine m_partsBy (d := d + 2) (v := 6) K17 (by omega) (by omega) M1 M2 R1_ R2_ n12 h42 wh1.2.2.2.1 wh2.2.2.2.1 ha hb po (fun h25 G25 => ⟨_, rfl, fun w => absurd rfl w, fun _ => ?_⟩)
    have G25' := fms_trans G17' G25
    have K25 := G25'.2.2.1 K
    have N1 := mD_sl M1 h41 (G25.2.2.2.2 p (by omega))
    have N2 := mD_sl M2 h42 (G25.2.2.2.2 q (by omega))
    have w25 : ah_f h25 168 23 = nI w := by rw [G25'.2.2.2.1 23 (by decide)]; exact hw
    have pa14 : 2 ^ na ≤ 2 ^ 14 := Nat.pow_le_pow_right (by decide) (by omega)
    have pb14 : 2 ^ nb ≤ 2 ^ 14 := Nat.pow_le_pow_right (by decide) b14
    have cw : nI (w + 2 ^ na + 2 ^ nb) ≤ (1000000 : Int32) ↔ w + 2 ^ na + 2 ^ nb ≤ 1000000 := nI_leI (b := 1000000) (by omega) (by omega)
    refine ⟨o168 K25, 170, r168_2 K25, (s170 K25 _).mpr ((ix_nI (by omega)).mpr (by omega)), (s170 K25 _).mpr ((ix_nI (by omega)).mpr (by omega)), ?_⟩
    rw [nI_clamp (by omega), N1.1, N2.1, w25, shl1 (by omega), shl1 b14, nI_add, nI_add, cw]
    refine ⟨fun _ => ?_, fun z => absurd (by omega) z⟩
    have fn : ∀ h', fr mpL h25 h' → ah_f h' 168 = u1 (u1 (ah_f h25 168) 23 (nI (w + 2 ^ na))) 23 (nI (w + 2 ^ na + 2 ^ nb)) → FN w' hz h' := fun h' F f' => by
      refine ⟨F.1.1.trans G25'.1, fun a a1 => eqc_trans (G25'.2.1 a a1) (eqc_fr F (fun q => a1 ((by decide +kernel : ∀ a, a ∈ mpL → a ∈ Mscr) a q))), sp_fr K25 F, fun k k1 k2 => ?_, fun s hs => sl_trans (G25'.2.2.2.2 s hs) (sl_of s (fr_i F 170 (by decide)) (fr_i F 171 (by decide)) (fr_i F 172 (by decide)) (fr_i F 173 (by decide))), ?_⟩
      · rw [f', u1_n _ _ k2, u1_n _ _ k2, G25'.2.2.2.1 k k1]
      · rw [f', u1_s, ew]
    refine m_polyPart (d := d) (w := w) (wa := wa) (wb := wb) K25 (by omega) (by omega) N1 N2 R1_ R2_ (by omega) b14 wh1.2.2.2.1 wh2.2.2.2.1 w25 ea eb (by omega) (by omega) (fun yes h33 F33 f33 => ⟨_, rfl, fun _ => ?_, fun z => absurd rfl z⟩) (fun nope h33 F33 f33 => ⟨_, rfl, fun z => absurd z (by decide), fun _ => ?_⟩)
    · rcases pol with ⟨ev, -⟩ | ⟨-, np⟩
      · subst ev
        exact kk h33 (fn h33 F33 f33)
      · exact absurd yes np
    · rcases pol with ⟨-, yp⟩ | ⟨ev, -⟩
      · exact absurd yp nope
      · subst ev
        exact kk h33 (fn h33 F33 f33)
end AIM
