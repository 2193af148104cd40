/-! ofGauss: the step. -/
/-- the picture of a Gauss row -/
def PC (T : Nat → Int32) (L : Nat) (A : Nat → Nat) : Prop := ∀ i, i < L - 1 → ps T i → A (en (tv T i)) = cb T (L - 1) (np T i) ∧ A (xt (tv T i)) = np T i
theorem last_l {x : Int32} (h : -11 ≤ x.toInt ∧ x.toInt ≤ -2) : ∃ l : Nat, l ≤ 9 ∧ -2 - x = nI l := by
  have c : x.toInt = -2 ∨ x.toInt = -3 ∨ x.toInt = -4 ∨ x.toInt = -5 ∨ x.toInt = -6 ∨ x.toInt = -7 ∨ x.toInt = -8 ∨ x.toInt = -9 ∨ x.toInt = -10 ∨ x.toInt = -11 := by omega
  have t : ∀ y : Int32, x.toInt = y.toInt → x = y := fun y e => Int32.toInt_inj.mp e
  rcases c with e | e | e | e | e | e | e | e | e | e
  · rw [t (-2) e]; exact ⟨0, by decide, by decide⟩
  · rw [t (-3) e]; exact ⟨1, by decide, by decide⟩
  · rw [t (-4) e]; exact ⟨2, by decide, by decide⟩
  · rw [t (-5) e]; exact ⟨3, by decide, by decide⟩
  · rw [t (-6) e]; exact ⟨4, by decide, by decide⟩
  · rw [t (-7) e]; exact ⟨5, by decide, by decide⟩
  · rw [t (-8) e]; exact ⟨6, by decide, by decide⟩
  · rw [t (-9) e]; exact ⟨7, by decide, by decide⟩
  · rw [t (-10) e]; exact ⟨8, by decide, by decide⟩
  · rw [t (-11) e]; exact ⟨9, by decide, by decide⟩
theorem GR_at {T : Nat → Int32} {L : Nat} (G : GR T L) {e : Nat} (he : e < 4 * (np T (L - 1) / 2)) : ∃ i, i < L - 1 ∧ ps T i ∧ (e = en (tv T i) ∨ e = xt (tv T i)) := by
  obtain ⟨i, i', i1, i2, i3, i4, i5, i6, -⟩ := G.2.2.2 (e / 4) (by omega)
  by_cases q : e % 2 = 0
  · exact ⟨i, i1, i3, en_or (by omega) (by omega)⟩
  · exact ⟨i', i2, i4, en_or (by omega) (by omega)⟩
theorem PC_lt {T : Nat → Int32} {L : Nat} {A : Nat → Nat} (G : GR T L) (P : PC T L A) (h80 : np T (L - 1) ≤ 80) : ∀ e, e < 4 * (np T (L - 1) / 2) → A e < 100 := by
  intro e he
  obtain ⟨i, i1, i2, q⟩ := GR_at G he
  obtain ⟨p1, p2⟩ := P i i1 i2
  have := np_lt i1 i2
  have := cb_lt T (L - 1) (np T i)
  rcases q with q | q
  · rw [q, p1]; omega
  · rw [q, p2]; omega
section OFG
variable {h h1 h2 h3 h9 hx hz : AH} {d bc bs L : Nat} {Q : Option Value → AH → Prop} {W : Nat → Nat} {N : Nat} {B : Nat → Nat} {S : Nat → Int32} {len : Nat}
theorem c_draw {T : Nat → Int32} (K : sp h) (hL : ah_f h 3 1 = nI L) (h130 : L ≤ 130) (eT : T = ah_i h 4) (kF : ¬ GC T L → ∀ h', fr [29, 29 + 1, 29 + 2] h h' → Q (some (.int 0)) h') (kT : GC T L → ∀ h' l A, fr [29, 29 + 1, 29 + 2] h h' → l ≤ 9 → -2 - T (L - 1) = nI l → PC T L A → cD h' 29 (np T (L - 1) / 2) l A → Q (some (.int 1)) h') : ex_S yX7_draw mX7_draw (d + 2) [.ref 29, .ref 3] h bc bs Q := by
  have P := pt29 K
  refine X7_draw_e (X7_draw_0 (c_countPasses K hL h130 (fun M => ⟨_, rfl, fun w => absurd w ?_, fun _ => ⟨fun w80 => ?_, fun w80 => kF (fun G => w80 ?_) h (fr_refl _ h)⟩⟩) (fun nM => ⟨_, rfl, fun _ => kF (fun G => nM (by rw [← eT]; exact G.1)) h (fr_refl _ h), fun w => absurd (show (-1 : Int32) < 0 by decide) w⟩)))
  · intro q
    have nl := np_le (ah_i h 4) (L - 1)
    have := (nI_ltI (b := 0) (by omega) (by omega)).mp q
    omega
  · rw [← eT] at M w80 ⊢
    have nl := np_le T (L - 1)
    have L1 := M.1
    have h80 : np T (L - 1) ≤ 80 := (nI_leI (b := 80) (by omega) (by omega)).mp w80
    obtain ⟨l, hl9, el⟩ := last_l M.2.1
    refine ⟨pt_o P, c_empty (d := d) P (fun h5 F5 g0 g2 g1 => ⟨rfl, ?_⟩)⟩
    have K5 := sp_fr K F5
    have L5 : ah_f h5 3 1 = nI L := by rw [fr_f F5 3 (by decide)]; exact hL
    have T5 : ah_i h5 4 = T := by rw [fr_i F5 4 (by decide)]; exact eT.symm
    refine ⟨o3 K5, 4, r3_0 K5, ?_⟩
    rw [L5, nI_m1 L1, nI_clamp (by omega), T5, el]
    refine ⟨(s4 K5 _).mpr ((ix_nI (by omega)).mpr (by omega)), o29 K5, fun h11 e11 => ?_⟩
    have F11 : fr [29, 29 + 1, 29 + 2] h h11 := by rw [e11]; exact fr_sf F5 (by decide)
    have i11 : ah_i h11 (29 + 2) = fl (ah_i h (29 + 2)) 160 m1 := by rw [e11, i_sf]; exact g2
    have f11 : ah_f h11 29 = u1 (ah_f h5 29) 3 (nI l) := by rw [e11, f_sf_s]
    have dv : nI (np T (L - 1)) / 2 = nI (np T (L - 1) / 2) := pk_div (d := 2) (by omega) (by omega) (by omega)
    refine lp (np T (L - 1) / 2) (fun c h' => fr [29, 29 + 1, 29 + 2] h h' ∧ ah_f h' 29 2 = nI c ∧ ah_f h' 29 3 = nI l ∧ (∀ c', c' < c → ah_i h' (29 + 1) c' = nI 4) ∧ ∀ e, e < 160 → ah_i h' (29 + 2) e = m1) (fun c h' => ex_G mX7_draw (d + 2) 41 [.ref 29, .ref 3, .int (nI (np T (L - 1))), .int (nI c), .retAddr 0, .retAddr 0, .retAddr 0] [] h' bc bs Q) ⟨F11, ?_, ?_, fun c hc => absurd hc (Nat.not_lt_zero c), fun e he => ?_⟩ ?_ ?_
    · rw [f11, u1_n _ _ (by decide), g0, u1_n _ _ (by decide), u1_s]
    · rw [f11, u1_s]
    · rw [i11]
      unfold fl
      rw [if_pos he]
    · rintro c h6 hc ⟨F6, f2, f3, f4, f5⟩ nx
      refine X7_draw_41 ⟨fun w => ?_, fun _ => ⟨o29 (sp_fr K F6), ?_⟩⟩
      · rw [dv, nI_leI (by omega) (by omega)] at w
        omega
      refine c_add (pt29 (sp_fr K F6)) f2 (by omega) _ _ _ _ (fun h7 F7 q0 q1 q2 => ⟨rfl, fun x4 e4 => ?_⟩)
      have g : x4 = nI (c + 1) := by rw [e4]; exact nI_add _ 1
      rw [g]
      refine nx h7 ⟨fr_trans F6 F7, by rw [q0, u1_s], by rw [q0, u1_n _ _ (by decide)]; exact f3, fun c' hc' => ?_, fun e he => ?_⟩
      · rw [q1]
        by_cases q : c' = c
        · rw [q, u1_s]
        · rw [u1_n _ _ q]; exact f4 c' (by omega)
      · rw [q2]
        unfold u4 u1
        have := f5 e he
        split
        · rfl
        · split
          · rfl
          · split
            · rfl
            · split
              · rfl
              · exact this
    · rintro h6 ⟨F6, f2, f3, f4, f5⟩
      refine X7_draw_41 ⟨fun _ => ?_, fun w => absurd (by rw [dv]; exact (nI_leI (by omega) (by omega)).mpr (Nat.le_refl _)) w⟩
      refine c_drawloop (T := T) (N2 := np T (L - 1) / 2) (lo := nI l) K hL h130 eT M h80 rfl ⟨F6, ⟨f2, f3, f4⟩, fun i hi => absurd hi (Nat.not_lt_zero i), fun e he _ => f5 e (by omega), fun i hi => absurd hi (Nat.not_lt_zero i)⟩ kF (fun h8 D8 => ?_)
      obtain ⟨F8, ⟨d2, d3, d4⟩, I1, -, I3⟩ := D8
      have G : GC T L := ⟨M, h80, I3⟩
      have vals : ∀ i, i < L - 1 → ps T i → ah_i h8 31 (en (tv T i)) = nI (cb T (L - 1) (np T i)) ∧ ah_i h8 31 (xt (tv T i)) = nI (np T i) := fun i hi pi => by
        obtain ⟨j1, j2⟩ := I1 i hi pi
        have := np_lt hi pi
        rw [if_neg (by rw [M.2.2.2]; omega)] at j1
        exact ⟨j1, j2⟩
      refine kT G h8 l (AN (ah_i h8 31)) F8 hl9 el (fun i hi pi => ?_) ⟨d2, d3, d4, fun e he => ?_⟩
      · obtain ⟨j1, j2⟩ := vals i hi pi
        have := np_lt hi pi
        have := cb_lt T (L - 1) (np T i)
        unfold AN
        rw [j1, j2, nI_clamp (by omega), nI_clamp (by omega)]
        exact ⟨rfl, rfl⟩
      · obtain ⟨i, i1, i2, q⟩ := GR_at (GC_GR G) he
        obtain ⟨j1, j2⟩ := vals i i1 i2
        have := np_lt i1 i2
        have := cb_lt T (L - 1) (np T i)
        show ah_i h8 31 e = _
        unfold AN
        rcases q with q | q
        · rw [q, j1, nI_clamp (by omega)]
        · rw [q, j2, nI_clamp (by omega)]
  · rw [← eT]
    exact (nI_leI (b := 80) (by have := G.2.1; omega) (by omega)).mpr G.2.1
theorem m_readsGauss {T : Nat → Int32} {A : Nat → Nat} {l : Nat} (K : sp h) (hL : ah_f h 168 29 = nI L) (h130 : L ≤ 130) (eT : ∀ i, i < L → ah_i h 191 i = T i) (hA : GR T L → PC T L A ∧ l ≤ 9 ∧ -2 - T (L - 1) = nI l) (kF : ¬ GR T L → ∀ h', fms h h' → Q (some (.int 0)) h') (kT : GR T L → ∀ h' r pl, fms h h' → mD h' 364 (np T (L - 1) / 2) l A → opn (np T (L - 1) / 2) (fun _ => nI 4) (fun e => nI (A e)) r pl → Q (some (.int (if r = 0 then 1 else 0))) h') : ex_S yX12_readsGauss mX12_readsGauss (d + 4) [.ref 168] h bc bs Q := by
  have nl := np_le T (L - 1)
  refine X12_readsGauss_e (X12_readsGauss_0 ⟨o168 K, m_passes (d := d + 2) (T := T) K hL h130 eT (fun P h1 F1 B0 => ⟨_, rfl, fun w => absurd w ?_, fun _ => ⟨fun ev => ?_, fun od => kF (fun G => ?_) h1 (fms_sc F1 (by decide))⟩⟩) (fun nP h1 F1 => ⟨_, rfl, fun _ => kF (fun G => nP ⟨G.1, G.2.1⟩) h1 (fms_sc F1 (by decide)), fun w => absurd (show (-1 : Int32) < 0 by decide) w⟩)⟩)
  · intro q
    have := (nI_ltI (b := 0) (by omega) (by omega)).mp q
    omega
  · have im : im_ (nI (np T (L - 1))) 2 = nI (np T (L - 1) % 2) := im_nI (d := 2) (by omega) (by omega) (by omega)
    have evn : np T (L - 1) % 2 = 0 := by
      rw [im] at ev
      have : np T (L - 1) % 2 ≠ 1 := fun q => ev (by rw [q]; rfl)
      omega
    have K1 := sp_fr K F1
    have L1 := P.1.1
    obtain ⟨lx, hl9, el⟩ := last_l P.1.2.1
    have inj := @inj_of T L (fun i hi pi => (P.2 i hi pi).2)
    have h80 : np T (L - 1) ≤ 80 := by
      obtain ⟨Po, hP⟩ := pos_ex T (L - 1)
      refine php' (N := 80) (f := fun j => tv T (Po j) / 2) (fun i hi => by
        obtain ⟨a1, a2, a3⟩ := hP i hi
        have := (P.2 (Po i) a1 a2).1
        show tv T (Po i) / 2 < _
        omega) (fun i j hij hj e => ?_)
      obtain ⟨a1, a2, a3⟩ := hP i (by omega)
      obtain ⟨b1, b2, b3⟩ := hP j hj
      have := inj a1 b1 a2 b2 e
      rw [this] at a3
      omega
    refine ⟨o168 K1, 170, r168_2 K1, (t170 K1 _).mpr ix364, fun h8 e8 => ?_⟩
    have F8 : fr [170, 171, 172, 173] h1 h8 := by rw [e8]; exact fr_si (fr_refl _ h1) (by decide)
    have K8 := sp_fr K1 F8
    have L8 : ah_f h8 168 29 = nI L := by rw [fr_f F8 168 (by decide), fr_f F1 168 (by decide)]; exact hL
    have T8 : ah_i h8 191 (L - 1) = T (L - 1) := by rw [fr_i F8 191 (by decide), fr_i F1 191 (by decide)]; exact eT _ (by omega)
    refine ⟨171, r168_3 K8, 191, r168_28 K8, ?_⟩
    rw [L8, nI_m1 L1, nI_clamp (by omega), T8, el]
    refine ⟨(s191 K8 _).mpr ((ix_nI (by omega)).mpr (by omega)), (t171 K8 _).mpr ix364, fun h13 e13 => ?_⟩
    have F13 : fr [170, 171, 172, 173] h1 h13 := by rw [e13]; exact fr_si F8 (by decide)
    have s13 : ∀ u, u ≠ 364 → sl h1 h13 u := fun u hu => by
      rw [e13, e8]
      exact sl_trans (sl_170 hu) (sl_171 hu)
    have D13 : mD h13 364 0 lx A := ⟨by rw [e13, i_si_n _ _ _ _ _ (by decide), e8, i_si_s]; exact u1_s _ _ _, by rw [e13, i_si_s]; exact u1_s _ _ _, fun c hc => absurd hc (Nat.not_lt_zero c), fun e he => absurd he (Nat.not_lt_zero e)⟩
    have dv : nI (np T (L - 1)) / 2 = nI (np T (L - 1) / 2) := pk_div (d := 2) (by omega) (by omega) (by omega)
    refine lp (np T (L - 1) / 2) (fun c h' => fr [170, 171, 172, 173, 175, 195, 196] h1 h' ∧ (∀ u, u ≠ 364 → sl h1 h' u) ∧ (∃ A', mD h' 364 c lx A' ∧ (GR T L → ∀ e, e < 4 * c → A' e = A e)) ∧ ∀ c', c' < c → ∃ i i', i < L - 1 ∧ i' < L - 1 ∧ ps T i ∧ ps T i' ∧ tv T i / 2 = 2 * c' ∧ tv T i' / 2 = 2 * c' + 1 ∧ tv T i % 2 = tv T i' % 2) (fun c h' => ex_G mX12_readsGauss (d + 4) 51 [.ref 168, .int (nI (np T (L - 1))), .int (nI c), .retAddr 0, .retAddr 0] [] h' bc bs Q) ⟨fr_mono F13 (by decide), s13, ⟨A, D13, fun _ e he => absurd he (Nat.not_lt_zero e)⟩, fun c hc => absurd hc (Nat.not_lt_zero c)⟩ ?_ ?_
    · rintro c h2 hc ⟨F2, s2, ⟨A', D2, a2⟩, I⟩ nx
      have K2 := sp_fr K1 F2
      have fm : fms h h2 := fms_trans (fms_sc F1 (by decide)) (fS_fms ⟨F2, s2⟩)
      refine X12_readsGauss_51 ⟨fun w => ?_, fun _ => ⟨o168 K2, 192, r168_30 K2, (s192 K2 _).mpr ((ix_nI (by omega)).mpr (by omega)), ?_⟩⟩
      · rw [dv, nI_leI (by omega) (by omega)] at w
        omega
      have u192 : ah_i h2 192 = ah_i h1 192 := fr_i F2 192 (by decide)
      have u193 : ah_i h2 193 = ah_i h1 193 := fr_i F2 193 (by decide)
      have u194 : ah_i h2 194 = ah_i h1 194 := fr_i F2 194 (by decide)
      rw [nI_clamp (by omega), u192]
      have n0 : ∀ x : Nat, x < 1000 → ¬ nI x < 0 := fun x hx q => by
        have := (nI_ltI (b := 0) (by omega) (by omega)).mp q
        omega
      by_cases ex1 : ∃ i, i < L - 1 ∧ ps T i ∧ tv T i / 2 = 2 * c
      · obtain ⟨i, i1, i2, i3⟩ := ex1
        have bi := B0.1 i i1 i2
        rw [sw_192 (by omega), show tv T i / 4 = c by omega] at bi
        have nli := np_lt i1 i2
        refine ⟨fun w => absurd w (by rw [bi]; exact n0 _ (by omega)), fun _ => ⟨193, r168_31 K2, (s193 K2 _).mpr ((ix_nI (by omega)).mpr (by omega)), ?_⟩⟩
        rw [u193]
        by_cases ex2 : ∃ i', i' < L - 1 ∧ ps T i' ∧ tv T i' / 2 = 2 * c + 1
        · obtain ⟨j, j1, j2, j3⟩ := ex2
          have bj := B0.1 j j1 j2
          rw [sw_193 (by omega), show tv T j / 4 = c by omega] at bj
          have nlj := np_lt j1 j2
          refine ⟨fun w => absurd w (by rw [bj]; exact n0 _ (by omega)), fun _ => ?_⟩
          have ai : (nI (2 * np T i + tv T i % 2) &&& 1 : Int32) = nI (tv T i % 2) := by
            have := and1 (n := 2 * np T i + tv T i % 2) (by omega)
            rw [show (2 * np T i + tv T i % 2) % 2 = tv T i % 2 by omega] at this
            exact this
          have aj : (nI (2 * np T j + tv T j % 2) &&& 1 : Int32) = nI (tv T j % 2) := by
            have := and1 (n := 2 * np T j + tv T j % 2) (by omega)
            rw [show (2 * np T j + tv T j % 2) % 2 = tv T j % 2 by omega] at this
            exact this
          have di : nI (2 * np T i + tv T i % 2) / 2 = nI (np T i) := by
            have : nI (2 * np T i + tv T i % 2) / 2 = nI ((2 * np T i + tv T i % 2) / 2) := pk_div (d := 2) (by omega) (by omega) (by omega)
            rw [this]
            congr 1
            omega
          have dj : nI (2 * np T j + tv T j % 2) / 2 = nI (np T j) := by
            have : nI (2 * np T j + tv T j % 2) / 2 = nI ((2 * np T j + tv T j % 2) / 2) := pk_div (d := 2) (by omega) (by omega) (by omega)
            rw [this]
            congr 1
            omega
          have ci : ah_i h1 194 (np T i) = nI (cb T (L - 1) (np T i)) := B0.2.2 _ nli (by rw [P.1.2.2.2]; omega)
          have cj : ah_i h1 194 (np T j) = nI (cb T (L - 1) (np T j)) := B0.2.2 _ nlj (by rw [P.1.2.2.2]; omega)
          have ei : en (tv T i) = 4 * c ∧ xt (tv T i) = 4 * c + 2 := by
            have : en (tv T i) = 4 * c := by unfold en; rw [if_pos (by omega)]; omega
            unfold xt
            rw [this]
            exact ⟨rfl, by unfold cn; omega⟩
          rw [bi, bj, ai, aj, di, dj, nI_eq (by omega) (by omega)]
          refine ⟨fun sg x14 e14 x15 e15 => ?_, fun sg => kF (fun G => sg ?_) h2 fm⟩
          · subst e14
            subst e15
            have c1 : nI (tv T i % 2) = 1 ↔ tv T i % 2 = 1 := nI_eq (b := 1) (by omega) (by omega)
            have nn : ∀ a0 a1 a2_ a3 : Nat, (GR T L → A (4 * c) = a0 ∧ A (4 * c + 1) = a1 ∧ A (4 * c + 2) = a2_ ∧ A (4 * c + 3) = a3) → ex_S yX12_append mX12_append (d + 3) [.ref 168, .int 364, .int (nI a0), .int (nI a1), .int (nI a2_), .int (nI a3)] h2 0 0 (fun r h20 => r = none ∧ ∀ x21, x21 = nI c + 1 → ex_G mX12_readsGauss (d + 4) 51 [.ref 168, .int (nI (np T (L - 1))), .int x21, .retAddr 0, .retAddr 0] [] h20 bc bs Q) := by
              intro a0 a1 a2_ a3 ea
              refine m_appD (s := 364) K2 (by decide) D2 (by omega) (fun h20 F20 D20 => ⟨rfl, fun x21 e21 => ?_⟩)
              have g : x21 = nI (c + 1) := by rw [e21]; exact nI_add _ 1
              rw [g]
              refine nx h20 ⟨fr_trans F2 F20.1, fun u hu => sl_trans (s2 u hu) (F20.2 u hu), ⟨_, D20, fun G e he => ?_⟩, fun c' hc' => ?_⟩
              · obtain ⟨q0, q1, q2, q3⟩ := ea G
                unfold apd
                by_cases w : e < 4 * c
                · rw [if_pos w]; exact a2 G e w
                · rw [if_neg w]
                  by_cases w0 : e = 4 * c
                  · rw [if_pos w0, w0, q0]
                  · rw [if_neg w0]
                    by_cases w1 : e = 4 * c + 1
                    · rw [if_pos w1, w1, q1]
                    · rw [if_neg w1]
                      by_cases w2 : e = 4 * c + 2
                      · rw [if_pos w2, w2, q2]
                      · rw [if_neg w2, show e = 4 * c + 3 by omega, q3]
              · by_cases q : c' = c
                · subst q
                  exact ⟨i, j, i1, j1, i2, j2, i3, j3, sg⟩
                · exact I c' (by omega)
            rw [c1, nI_clamp (by omega), nI_clamp (by omega)]
            rw [← u194] at ci cj
            refine ⟨fun w => ⟨194, r168_32 K2, (s194 K2 _).mpr ((ix_nI (by omega)).mpr (by omega)), (s194 K2 _).mpr ((ix_nI (by omega)).mpr (by omega)), ?_⟩, fun w => ⟨194, r168_32 K2, (s194 K2 _).mpr ((ix_nI (by omega)).mpr (by omega)), (s194 K2 _).mpr ((ix_nI (by omega)).mpr (by omega)), ?_⟩⟩
            · rw [ci, cj]
              refine nn _ _ _ _ (fun G => ?_)
              have ej : en (tv T j) = 4 * c + 1 ∧ xt (tv T j) = 4 * c + 3 := by
                have : en (tv T j) = 4 * c + 1 := by unfold en; rw [if_neg (by omega), if_neg (by omega)]; omega
                unfold xt
                rw [this]
                exact ⟨rfl, by unfold cn; omega⟩
              obtain ⟨p1, p2⟩ := (hA G).1 i i1 i2
              obtain ⟨p3, p4⟩ := (hA G).1 j j1 j2
              rw [ei.1] at p1
              rw [ei.2] at p2
              rw [ej.1] at p3
              rw [ej.2] at p4
              exact ⟨p1, p3, p2, p4⟩
            · rw [ci, cj]
              refine nn _ _ _ _ (fun G => ?_)
              have ej : en (tv T j) = 4 * c + 3 ∧ xt (tv T j) = 4 * c + 1 := by
                have : en (tv T j) = 4 * c + 3 := by unfold en; rw [if_neg (by omega), if_pos (by omega)]; omega
                unfold xt
                rw [this]
                exact ⟨rfl, by unfold cn; omega⟩
              obtain ⟨p1, p2⟩ := (hA G).1 i i1 i2
              obtain ⟨p3, p4⟩ := (hA G).1 j j1 j2
              rw [ei.1] at p1
              rw [ei.2] at p2
              rw [ej.1] at p3
              rw [ej.2] at p4
              exact ⟨p1, p4, p2, p3⟩
          · obtain ⟨a, b, a1, b1, a2', b2, a3, b3, ab⟩ := G.2.2.2 c hc
            have := inj a1 i1 a2' i2 (by omega)
            subst this
            have := inj b1 j1 b2 j2 (by omega)
            subst this
            exact ab
        · have := B0.2.1 (2 * c + 1) (by omega) (fun i hi pi e => ex2 ⟨i, hi, pi, e⟩)
          rw [sw_193 (by omega), show (2 * c + 1) / 2 = c by omega] at this
          refine ⟨fun _ => kF (fun G => ?_) h2 fm, fun w => absurd (by rw [this]; decide) w⟩
          obtain ⟨a, b, a1, b1, a2', b2, a3, b3, ab⟩ := G.2.2.2 c hc
          exact ex2 ⟨b, b1, b2, b3⟩
      · have := B0.2.1 (2 * c) (by omega) (fun i hi pi e => ex1 ⟨i, hi, pi, e⟩)
        rw [sw_192 (by omega), show (2 * c) / 2 = c by omega] at this
        refine ⟨fun _ => kF (fun G => ?_) h2 fm, fun w => absurd (by rw [this]; decide) w⟩
        obtain ⟨a, b, a1, b1, a2', b2, a3, b3, ab⟩ := G.2.2.2 c hc
        exact ex1 ⟨a, a1, a2', a3⟩
    · rintro h2 ⟨F2, s2, ⟨A', D2, a2⟩, I⟩
      have K2 := sp_fr K1 F2
      have fm : fms h h2 := fms_trans (fms_sc F1 (by decide)) (fS_fms ⟨F2, s2⟩)
      have G : GR T L := ⟨P.1, P.2, evn, I⟩
      have D2' := mD_congr D2 (a2 G)
      have e9 : lx = l := by
        obtain ⟨-, q9, this⟩ := hA G
        rw [el] at this
        exact (nI_eq (by omega) (by omega)).mp this
      subst e9
      have n40 : np T (L - 1) / 2 ≤ 40 := by omega
      refine X12_readsGauss_51 ⟨fun _ => ⟨o168 K2, ?_⟩, fun w => absurd (by rw [dv]; exact (nI_leI (by omega) (by omega)).mpr (Nat.le_refl _)) w⟩
      refine m_openOf (s := 364) (L := fun _ => nI 4) (A := fun e => nI (A e)) K2 (by decide) D2'.1 ⟨n40, fun c hc => Or.inr ⟨4, by omega, rfl⟩, fun e he => Or.inr ⟨_, PC_lt G (hA G).1 h80 e he, rfl⟩⟩ D2'.2.2.1 D2'.2.2.2 (fun h' r pl F f1 f2 f3 f4 => ⟨_, rfl, ?_⟩)
      have r4 := opn_le f3
      have := kT G h' r pl (fms_trans fm (fms_open F f1)) (mD_sc D2' F (by decide)) f3
      have c0 : nI r = 0 ↔ r = 0 := nI_eq (b := 0) (by omega) (by omega)
      rw [c0]
      refine ⟨fun q => ?_, fun q => ?_⟩
      · rw [if_neg q] at this
        exact this
      · rw [if_pos q] at this
        exact this
  · have im : im_ (nI (np T (L - 1))) 2 = nI (np T (L - 1) % 2) := im_nI (d := 2) (by omega) (by omega) (by omega)
    rw [im, G.2.2.1] at od
    exact absurd od (by decide)
theorem st_ofGauss (x : R0 h W N B S len) (hmax : ah_n h + 3 ≤ 10000000) : ST yX11_ofGauss mX11_ofGauss yX12_ofGauss mX12_ofGauss (d + 4) (d + 5) [] h (bc + 3) (bs + 207) W S len := by
  have K := x.2.1
  have h216 := K.1
  obtain ⟨h24, hN, hN2, hP⟩ := x.2.2.2.2.1
  have fq := fullQ hN h24
  obtain ⟨L, h130, t1, t2, t3⟩ := x.2.2.2.2.2.2.1.1
  obtain ⟨T, eT⟩ : ∃ T, T = ah_i h 4 := ⟨_, rfl⟩
  have t4 : ∀ i, i < L → ah_i h 191 i = T i := fun i hi => by rw [← t3 i hi, eT]
  refine X11_ofGauss_e (X11_ofGauss_0 ⟨o0 K, ⟨o0 K, trivial⟩, fun nf => ⟨29, r0_6 K, 3, r0_2 K, o29 K, ?_⟩, fun nf => c_no K 3 (by decide) ⟨_, rfl, _, rfl, ?_⟩⟩)
  · have hlt := fq.mp nf
    -- the reference, on a heap that the class left
    have go : ∀ hz, sp hz → ah_f hz 168 = ah_f h 168 → ah_i hz 191 = ah_i h 191 → ∀ (A : Nat → Nat) (l : Nat) (Q' : Option Value → AH → Prop), (GR T L → PC T L A ∧ l ≤ 9 ∧ -2 - T (L - 1) = nI l) → (¬ GR T L → ∀ h', fms hz h' → Q' (some (.int (-nI 15))) (mF h' 5)) → (GR T L → ∀ h' r pl, fms hz h' → mD h' 364 (np T (L - 1) / 2) l A → opn (np T (L - 1) / 2) (fun _ => nI 4) (fun e => nI (A e)) r pl → (r ≠ 0 → Q' (some (.int (-nI 15))) (mF h' 5)) ∧ (r = 0 → ex_S yX12_added mX12_added (d + 4) [.ref 168, .int 364] h' 0 0 (fun r h3 => ∃ x4, r = some (.int x4) ∧ Q' (some (.int x4)) h3))) → ex_S yX12_ofGauss mX12_ofGauss (d + 5) [.ref 168] hz 0 0 Q' := by
      intro hz Kz f168 i191 A l Q' hA k5 k0
      have hN6 : ah_f hz 168 6 = nI N := by rw [f168]; exact hN2
      have c24 : ¬ ah_f hz 168 6 = 24 := fun w => by
        rw [hN6] at w
        have := (nI_eq (b := 24) (by omega) (by omega)).mp w
        omega
      refine X12_ofGauss_e (X12_ofGauss_0 ⟨o168 Kz, fun _ => ?_, fun w => absurd w c24⟩)
      refine m_readsGauss (d := d) (T := T) (A := A) (l := l) Kz (by rw [f168]; exact t2) h130 (fun i hi => by rw [i191]; exact t4 i hi) hA (fun nG h' G' => ⟨_, rfl, fun _ => ⟨o168 (G'.2.2.1 Kz), meC (f := 5) (G'.2.2.1 Kz) (by decide), fun h8 e8 => ?_⟩, fun w => absurd rfl w⟩) (fun G h' r pl G' D' O' => ⟨_, rfl, fun w => ?_, fun w => ?_⟩)
      · rw [e8.trans (meH (f := 5) (G'.2.2.1 Kz) (by decide))]
        exact k5 nG h' G'
      · by_cases q : r = 0
        · rw [if_pos q] at w
          exact absurd w (by decide)
        · refine ⟨o168 (G'.2.2.1 Kz), meC (f := 5) (G'.2.2.1 Kz) (by decide), fun h8 e8 => ?_⟩
          rw [e8.trans (meH (f := 5) (G'.2.2.1 Kz) (by decide))]
          exact (k0 G h' r pl G' D' O').1 q
      · by_cases q : r = 0
        · exact ⟨o168 (G'.2.2.1 Kz), (k0 G h' r pl G' D' O').2 q⟩
        · rw [if_neg q] at w
          exact absurd rfl w
    refine c_draw (d := d + 1) (T := T) K t1 h130 eT (fun nG h1 F1 => ⟨_, rfl, fun w => absurd rfl w, fun _ => ⟨o0 (sp_fr K F1), c_f (sp_fr K F1) 5 (by decide) (by decide) ⟨_, rfl, _, rfl, ?_⟩⟩⟩) (fun G h1 l A F1 hl9 el pc D1 => ⟨_, rfl, fun _ => ?_, fun w => absurd w (by decide)⟩)
    · have Fc : fcs h h1 := fcs_fr F1 (by decide)
      obtain ⟨q1, q3, q4, q5⟩ := see_f x Fc 5
      have i1 : ah_i (cF h1 5) 191 = ah_i h 191 := by
        unfold cF
        rw [i_si_n _ _ _ _ _ (by decide), i_sf]
        exact fr_i F1 191 (by decide)
      exact go _ q4 q1 i1 (fun _ => 0) 0 _ (fun G => absurd (GR_GC G) nG) (fun _ h' G' => ⟨rfl, D_f x Fc (by decide) (by decide) G'⟩) (fun G => absurd (GR_GC G) nG)
    · have K1 := sp_fr K F1
      have Gr := GC_GR G
      have h80 := G.2.1
      have n40 : np T (L - 1) / 2 ≤ 40 := by omega
      have hA := PC_lt Gr pc h80
      refine ⟨o0 K1, 7, r0_4 K1, 29, r0_6 K1, o7 K1, c_survey (b := 7) (c := 29) (d := d) (L := fun _ => nI 4) (A := fun e => nI (A e)) (lk7 K1) (pt29 K1) (Or.inr (by decide)) ⟨n40, fun c hc => Or.inr ⟨4, by omega, rfl⟩, fun e he => Or.inr ⟨_, hA e he, rfl⟩⟩ D1.1 D1.2.1 D1.2.2.1 D1.2.2.2 (fun h2 r pl F2 v1 v2 v3 v4 O2 _ => ⟨rfl, ?_⟩)⟩
      have K2 := sp_fr K1 F2
      have Fc : fcs h h2 := fcs_trans (fcs_fr F1 (by decide)) (fcs_fr F2 lkc7)
      have r4 := opn_le O2
      have c0 : nI r = 0 ↔ r = 0 := nI_eq (b := 0) (by omega) (by omega)
      refine ⟨o0 K2, 7, r0_4 K2, o7 K2, ?_⟩
      rw [v3, c0]
      refine ⟨fun w => c_f K2 5 (by decide) (by decide) ⟨_, rfl, _, rfl, ?_⟩, fun w => ⟨29, r0_6 K2, ?_⟩⟩
      · obtain ⟨q1, q3, q4, q5⟩ := see_f x Fc 5
        have i1 : ah_i (cF h2 5) 191 = ah_i h 191 := by
          unfold cF
          rw [i_si_n _ _ _ _ _ (by decide), i_sf]
          exact (Fc.2.1 191 (by decide)).2.2.1
        exact go _ q4 q1 i1 A l _ (fun _ => ⟨pc, hl9, el⟩) (fun nG => absurd Gr nG) (fun _ h' r' pl' G' D' O' => ⟨fun _ => ⟨rfl, D_f x Fc (by decide) (by decide) G'⟩, fun q => absurd ((opn_u O2 O').1.trans q) w⟩)
      · have D2 : cD h2 29 (np T (L - 1) / 2) l A := cD_sc D1 F2 (by decide)
        have n2 : ah_n h2 = ah_n h := Fc.1
        refine c_addLike (d := d + 1) K2 (by rw [(Fc.2.1 0 (by decide)).2.1]; exact hN) hlt (pt29 K2) (by omega) (by decide) (by omega) (fun h80' A80 K80 => ⟨_, rfl, o0 K80, grC K80 _, fun h83 e83 => ⟨_, rfl, ?_⟩⟩)
        have e83' : h83 = cNo h80' (nI 0) := e83
        rw [e83']
        obtain ⟨w1, w2, w3, w4⟩ := see_add x Fc A80 K80
        refine go _ w2 w1 (w4 191 (by decide) (by decide)).2.2.1 A l _ (fun _ => ⟨pc, hl9, el⟩) (fun nG => absurd Gr nG) (fun _ h' r' pl' G' D' O' => ⟨fun q => absurd ((opn_u O' O2).1.trans w) q, fun _ => ?_⟩)
        refine m_added (d := d + 3) (N := N) (s := 364) (G'.2.2.1 w2) (by rw [G'.2.2.2.1 6 (by decide), w1]; exact hN2) hlt (by decide) (by omega) D'.1 n40 (fun h9 F9 s9 c9 q9 v9 f9 => ⟨_, rfl, rfl, ?_⟩)
        have ae := AL_end h216 Fc A80 G' F9
        exact D_add x hlt hmax Fc A80 K80 G' F9 s9 q9 v9 f9 (rp_of (n := np T (L - 1) / 2) (l := l) ⟨by rw [ae.1]; exact D2.1, by rw [ae.2.1]; exact D2.2.1, fun c hc => by rw [ae.2.2.1 c (by omega)]; exact D2.2.2.1 c hc, fun e he => by rw [ae.2.2.2 e (by omega)]; exact D2.2.2.2 e he⟩ (mD_sC D' n40 c9) n40 hl9 hA)
  · have hfull : ¬ N < 24 := fun q => nf (fq.mpr q)
    have eN : N = 24 := by omega
    obtain ⟨q1, q3, q4, q5⟩ := see_no x (fcs_refl h) (-nI 3)
    have w24 : ah_f (cNo h (-nI 3)) 168 6 = 24 := by rw [q1, hN2, eN]; rfl
    exact X12_ofGauss_e (X12_ofGauss_0 ⟨o168 q4, fun w => absurd w24 w, fun _ => ⟨noC q4 _, fun h8 e8 => ⟨rfl, by rw [e8]; exact D_no x (fcs_refl h) (-nI 3) (fms_refl _)⟩⟩⟩)
end OFG
