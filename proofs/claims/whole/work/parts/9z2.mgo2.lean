/-! The reference's search: goes. -/
section MGO2
variable {h h1 h2 h' : AH} {d bc bs : Nat} {Q : Option Value → AH → Prop} {c cu s n l e : Nat} {A : Nat → Nat} {D : SD} {G : Nat → Nat → (Nat → Nat) → Prop} {st : Int32}
theorem MG_eq {v : Int32} (x : MG h G v) (e : ah_i h' 208 = ah_i h 208) : MG h' G v := by
  unfold MG
  rw [e]
  exact x
theorem m_goes5 {lim : Nat} {v : Int32} {c' cu' s' g' e' f' : Nat} {D' : SD} (hlim : lim ≤ 5000) : ∀ (j : Nat) (h : AH) (c : Nat) (D : SD) (cu s g e f : Nat), RU G lim j c D cu s g e f c' D' cu' s' g' e' f' → PVI G c D cu s e f → MSI h c D cu s e (st + nI g) → MG h G v → g ≤ 5000 → (∀ h', FM h h' → ah_i h' 208 = ah_i h 208 → MSI h' c' D' cu' s' e' (st + nI g') → Q (some (.int (nI g'))) h') → ex_G mX12_goes (d + 4) 5 [.ref 168, .int (nI lim), .int v, .int (nI g), .int (nI f), .retAddr 0] [] h bc bs Q := by
  intro j
  induction j with
  | zero =>
    rintro h c D cu s g e f ⟨⟨rfl, rfl, rfl, rfl, rfl, rfl, rfl⟩, T⟩ P x mg hg kk
    have K := x.1
    have fin := kk h (FM_refl K) rfl x
    refine X12_goes_5 ⟨fun _ => fin, fun z => ⟨o168 K, fun _ => fin, fun z2 => ⟨fun _ => fin, fun z3 => ?_⟩⟩⟩
    exfalso
    rw [x.2.1] at z2
    have e0 := (nI_eq (b := 0) (by have := P.2.1.1; omega) (by omega)).mp z2
    have f0 := (nI_eq (b := 0) (by have := P.2.1.2; omega) (by omega)).mp z3
    rcases T with q | q | q
    · omega
    · omega
    · exact z ((nI_leI (by omega) (by omega)).mpr q)
  | succ j ih =>
    rintro h c D cu s g e f ⟨rfl, rfl, hgl, c1, D1, cu1, s1, g1, e1, f1, T, R⟩ P x mg hg kk
    have P0 := P.1
    have P1 := TN_PVI P T
    have K := x.1
    have gk := P0.2.2.2.2.1 cu P0.2.2.1
    have h12 := gk.1
    have hs := P0.2.2.2.1
    have c100 := P0.2.1
    have hcu := P0.2.2.1
    obtain ⟨x52, x53⟩ := x.2.2.2.1 rfl
    have x51 := x.2.2.1
    have gs12 : ∀ k, k < c → (D k).1 ≤ 12 := fun k hk => (P0.2.2.2.2.1 k hk).1
    have mk_ := x.2.2.2.2.2.2 cu hcu
    have e264 : (264 : Int32) + nI cu = nI (264 + cu) := nI_add 264 cu
    have e12 : (12 : Int32) * nI (D cu).1 = nI (12 * (D cu).1) := pk_mul 12 (D cu).1
    refine X12_goes_5 ⟨fun z => absurd ((nI_leI (by omega) (by omega)).mp z) (by omega), fun _ => ⟨o168 K, fun z => absurd x.2.1 z, fun _ => ⟨fun z => absurd rfl z, fun _ => ⟨170, r168_2 K, ?_⟩⟩⟩⟩
    rw [x52, x53, e264, nI_clamp (by omega), mk_.1.1, e12]
    refine ⟨(s170 K _).mpr ((ix_nI (by omega)).mpr (by omega)), fun ne x8 e8 h9 e9 => ?_, fun eq h28 e28 h29 e29 => ?_⟩
    · -- a way
      have lt : s < 12 * (D cu).1 := by
        have : s ≠ 12 * (D cu).1 := fun q => ne (by rw [q])
        omega
      rw [show nI s + 1 = nI (s + 1) from nI_add s 1] at e9
      have fm9 := FM_f K (by omega) e9
      have f9 : ah_f h9 168 = u1 (ah_f h 168) 53 (nI (s + 1)) := by rw [e9, f_sf_s]
      have F9 : fr [168] h h9 := by rw [e9]; exact fr_sf (fr_refl _ h) (by decide)
      clear e9
      subst e8
      have K9 := sp_fr K F9
      have fk9 : ∀ k, k ≠ 53 → ah_f h9 168 k = ah_f h 168 k := fun k hk => by rw [f9, u1_n _ _ hk]
      have mk9 : ∀ k, k < c → MKk h9 D k := fun k hk => MKk_eq (x.2.2.2.2.2.2 k hk) (gs12 k hk) (sl_of _ (fr_i F9 170 (by decide)) (fr_i F9 171 (by decide)) (fr_i F9 172 (by decide)) (fr_i F9 173 (by decide))) (fun i _ => by rw [fr_i F9 211 (by decide)]) (by rw [fr_i F9 209 (by decide)]) (by rw [fr_i F9 210 (by decide)])
      have x9 : MSI h9 c D cu (s + 1) 0 (st + nI g) := ⟨K9, (fk9 50 (by decide)).trans x.2.1, (fk9 51 (by decide)).trans x51, fun _ => ⟨(fk9 52 (by decide)).trans x52, by rw [f9, u1_s]⟩, fun z => absurd z (by decide), (fk9 54 (by decide)).trans x.2.2.2.2.2.1, mk9⟩
      rw [fk9 52 (by decide), x52, e264]
      have M9 := (mk9 cu hcu).1
      refine m_copyS K9 (s := 264 + cu) (t := 364) (by omega) (by decide) (by omega) M9.1 (by omega) (fun h10 F10 s10 c10 => ⟨rfl, ?_⟩)
      have G10 := fms_copy F10 s10
      have x10 := MSI_fms x9 c100 gs12 G10 F10 (by decide)
      have M10 := mD_sC M9 (by omega) c10
      rcases T with ⟨t1, -⟩ | ⟨t1, -⟩ | ⟨-, rfl, rfl, rfl, sf, n', l', A', M_, T⟩
      · omega
      · omega
      have sf_ := stp_f M_
      refine ⟨o168 x10.1, m_stepped (d := d) x10.1 M10 (by omega) gk.2.1 gk.2.2 M_ (fun h11 G11 F11 D11 => ⟨_, rfl, fun z => ?_, fun z => ?_⟩)⟩
      · have nz : sf ≠ 0 := fun q => z (by rw [q]; rfl)
        have x11 := MSI_fms x10 c100 gs12 G11 F11 (by decide)
        have fm11 : FM h h11 := FM_trans fm9 (FM_trans (FM_fms K9 G10) (FM_fms x10.1 G11))
        have i208 : ah_i h11 208 = ah_i h 208 := by rw [fr_i F11 208 (by decide), fr_i F10 208 (by decide), fr_i F9 208 (by decide)]
        rcases T with ⟨-, rfl, rfl, rfl, rfl⟩ | ⟨q, -⟩
        · exact ih h11 _ _ _ _ _ _ _ R P1 x11 (MG_eq mg i208) hg (fun h' fm i8 y => kk h' (FM_trans fm11 fm) (i8.trans i208) y)
        · exact absurd q nz
      · have z0 : sf = 0 := (nI_eq (b := 0) (by omega) (by omega)).mp z
        rcases T with ⟨q, -⟩ | ⟨-, rfl, T⟩
        · exact absurd z0 q
        subst z0
        have x11 := MSI_fms x10 c100 gs12 G11 F11 (by decide)
        have fm11 : FM h h11 := FM_trans fm9 (FM_trans (FM_fms K9 G10) (FM_fms x10.1 G11))
        have i208 : ah_i h11 208 = ah_i h 208 := by rw [fr_i F11 208 (by decide), fr_i F10 208 (by decide), fr_i F9 208 (by decide)]
        refine fun x15 e15 => ⟨o168 x11.1, fun h17 e17 => ?_⟩
        have ex15 : x15 = nI (g + 1) := by rw [e15]; exact nI_add g 1
        rw [ex15]
        have st1 : ah_f h11 168 54 + 1 = st + nI (g + 1) := by
          rw [x11.2.2.2.2.2.1, show nI (g + 1) = nI g + 1 from (nI_add g 1).symm, Int32.add_assoc]
        rw [st1] at e17
        have fm17 := FM_f x11.1 (by omega) e17
        have f17 : ah_f h17 168 = u1 (ah_f h11 168) 54 (st + nI (g + 1)) := by rw [e17, f_sf_s]
        have F17 : fr [168] h11 h17 := by rw [e17]; exact fr_sf (fr_refl _ h11) (by decide)
        clear e17
        have fk17 : ∀ k, k ≠ 54 → ah_f h17 168 k = ah_f h11 168 k := fun k hk => by rw [f17, u1_n _ _ hk]
        have x17 : MSI h17 c D _ (s + 1) 0 (st + nI (g + 1)) := ⟨sp_fr x11.1 F17, (fk17 50 (by decide)).trans x11.2.1, (fk17 51 (by decide)).trans x11.2.2.1, fun z => ⟨(fk17 52 (by decide)).trans (x11.2.2.2.1 z).1, (fk17 53 (by decide)).trans (x11.2.2.2.1 z).2⟩, fun z => absurd z (by decide), by rw [f17, u1_s], fun k hk => MKk_eq (x11.2.2.2.2.2.2 k hk) (gs12 k hk) (sl_of _ (fr_i F17 170 (by decide)) (fr_i F17 171 (by decide)) (fr_i F17 172 (by decide)) (fr_i F17 173 (by decide))) (fun i _ => by rw [fr_i F17 211 (by decide)]) (by rw [fr_i F17 209 (by decide)]) (by rw [fr_i F17 210 (by decide)])⟩
        have M17 : mD h17 364 n' l' A' := mD_sc (D11 rfl) F17 (by decide)
        have gd' := stp_GD gk M_
        have j208 : ah_i h17 208 = ah_i h 208 := by rw [fr_i F17 208 (by decide), i208]
        have fm17' := FM_trans fm11 fm17
        refine m_kept (d := d) (w := s) x17 c100 P0.2.2.2.2.1 M17 gd' (fun why h18 fm18 i18 x18 => ⟨_, rfl, fun _ => ?_, fun z => absurd rfl z⟩) (fun clt nk h18 fm18 i18 x18 => ⟨_, rfl, fun z => absurd z (by decide), fun _ => ?_⟩)
        · rcases T with ⟨-, rfl, rfl, rfl⟩ | ⟨q1, q2, -⟩
          · exact ih h18 _ _ _ _ _ _ _ R P1 x18 (MG_eq mg (i18.trans j208)) (by omega) (fun h' fm i8 y => kk h' (FM_trans fm17' (FM_trans fm18 fm)) (i8.trans (i18.trans j208)) y)
          · rcases why with q | q
            · omega
            · exact absurd q q2
        · rcases T with ⟨q1, -⟩ | ⟨-, -, rfl, rfl, ff⟩
          · rcases q1 with q | q
            · omega
            · exact absurd q nk
          · have K18 := x18.1
            have go0 : f1 = 0 → ex_G mX12_goes (d + 4) 5 [.ref 168, .int (nI lim), .int v, .int (nI (g + 1)), .int 0, .retAddr 0] [] h18 bc bs Q := by
              rintro rfl
              exact ih h18 _ _ _ _ _ _ _ R P1 x18 (MG_eq mg (i18.trans j208)) (by omega) (fun h' fm i8 y => kk h' (FM_trans fm17' (FM_trans fm18 fm)) (i8.trans (i18.trans j208)) y)
            have go1 : f1 = 1 → ex_G mX12_goes (d + 4) 5 [.ref 168, .int (nI lim), .int v, .int (nI (g + 1)), .int 1, .retAddr 0] [] h18 bc bs Q := by
              rintro rfl
              exact ih h18 _ _ _ _ _ _ _ R P1 x18 (MG_eq mg (i18.trans j208)) (by omega) (fun h' fm i8 y => kk h' (FM_trans fm17' (FM_trans fm18 fm)) (i8.trans (i18.trans j208)) y)
            rcases mg with ⟨v0, ng⟩ | ⟨v1, gn, gl, gA, gP, gNk, gfk, gR, gcd, gob, gX, gb, gi⟩
            · refine ⟨fun _ => go0 ?_, fun z => absurd v0 z⟩
              rcases ff with ⟨-, q⟩ | ⟨q, -⟩
              · exact absurd q (ng _ _ _ gd'.1)
              · exact q
            · refine ⟨fun z => absurd (v1.symm.trans z) (by decide), fun _ => ⟨o168 K18, 211, r168_57 K18, 208, r168_48 K18, ?_⟩⟩
              have e70 : (70 : Int32) * (nI (c + 1) - 1) = nI (70 * c) := by
                rw [show nI (c + 1) - 1 = nI c from pk_sub (a := c + 1) (b := 1) (by omega)]
                exact pk_mul 70 c
              rw [x18.2.2.1, e70]
              obtain ⟨y1, ⟨P', Nk', fk', cd', ob', X', b'⟩, y3⟩ := x18.2.2.2.2.2.2 c (by omega)
              rw [u1_s] at cd' ob' X' b'
              have h12' := gd'.1
              have X8 : OUT (ah_i h18 208) 0 gl gn gP gNk gfk := by rw [i18, j208]; exact gX
              have cond := AK_iff (l := l') (l' := gl) gd'.2.2 gR cd' gcd
              refine m_alike (o1 := 70 * c) (o2 := 0) (sp_x K18 211 (by decide) rfl) (sp_x K18 208 (by decide) rfl) (by decide) (by decide) X' X8 ob' gob (by omega) (by omega) (by decide) (by decide) (fun yes => ⟨_, rfl, fun z => absurd z (by decide), fun _ => go1 ?_⟩) (fun nope => ⟨_, rfl, fun _ => go0 ?_, fun z => absurd rfl z⟩)
              · rcases ff with ⟨q, -⟩ | ⟨-, q⟩
                · exact q
                · exact absurd ((gi _ _ _).mpr (cond.mp yes)) q
              · rcases ff with ⟨-, q⟩ | ⟨q, -⟩
                · exact absurd (cond.mpr ((gi _ _ _).mp q)) nope
                · exact q
    · -- the next state
      have es : s = 12 * (D cu).1 := (nI_eq (by omega) (by omega)).mp eq
      rw [show nI cu + 1 = nI (cu + 1) from nI_add cu 1] at e28
      have fm28 := FM_f K (by omega) e28
      have f28 : ah_f h28 168 = u1 (ah_f h 168) 52 (nI (cu + 1)) := by rw [e28, f_sf_s]
      have F28 : fr [168] h h28 := by rw [e28]; exact fr_sf (fr_refl _ h) (by decide)
      clear e28
      have K28 := sp_fr K F28
      have fm29 := FM_f K28 (by omega) e29
      have f29 : ah_f h29 168 = u1 (u1 (ah_f h 168) 52 (nI (cu + 1))) 53 (nI 0) := by rw [e29, f_sf_s, f28]; rfl
      have F29 : fr [168] h h29 := by rw [e29]; exact fr_sf F28 (by decide)
      clear e29
      have K29 := sp_fr K F29
      have g52 : ah_f h29 168 52 = nI (cu + 1) := by rw [f29, u1_n _ _ (by decide), u1_s]
      have g51 : ah_f h29 168 51 = nI c := by rw [f29, u1_n _ _ (by decide), u1_n _ _ (by decide)]; exact x51
      have build : ∀ (v : Nat) (h31 : AH), h31 = ah_sf h29 168 50 (nI v) → fr [168] h h31 ∧ FM h h31 ∧ ah_f h31 168 = u1 (u1 (u1 (ah_f h 168) 52 (nI (cu + 1))) 53 (nI 0)) 50 (nI v) ∧ ∀ k, k < c → MKk h31 D k := by
        intro v h31 e31
        have F31 : fr [168] h h31 := by rw [e31]; exact fr_sf F29 (by decide)
        exact ⟨F31, FM_trans fm28 (FM_trans fm29 (FM_f K29 (by omega) e31)), by rw [e31, f_sf_s, f29], fun k hk => MKk_eq (x.2.2.2.2.2.2 k hk) (gs12 k hk) (sl_of _ (fr_i F31 170 (by decide)) (fr_i F31 171 (by decide)) (fr_i F31 172 (by decide)) (fr_i F31 173 (by decide))) (fun i _ => by rw [fr_i F31 211 (by decide)]) (by rw [fr_i F31 209 (by decide)]) (by rw [fr_i F31 210 (by decide)])⟩
      rw [g52, g51]
      refine ⟨fun ne h31 e31 => ?_, fun eq2 h31 e31 => ?_⟩
      · obtain ⟨F31, fm31, f31, mk31⟩ := build 0 h31 e31
        have nlast : cu + 1 < c := by
          have : cu + 1 ≠ c := fun q => ne (by rw [q])
          omega
        rcases T with ⟨-, -, rfl, rfl, rfl, rfl, rfl, rfl, rfl⟩ | ⟨-, q, -⟩ | ⟨q, -⟩
        · exact ih h31 _ _ _ _ _ _ _ R P1 ⟨sp_fr K F31, by rw [f31, u1_s], by rw [f31, u1_n _ _ (by decide), u1_n _ _ (by decide), u1_n _ _ (by decide)]; exact x51, fun _ => ⟨by rw [f31, u1_n _ _ (by decide), u1_n _ _ (by decide), u1_s], by rw [f31, u1_n _ _ (by decide), u1_s]⟩, fun z => absurd z (by decide), by rw [f31, u1_n _ _ (by decide), u1_n _ _ (by decide), u1_n _ _ (by decide)]; exact x.2.2.2.2.2.1, mk31⟩ (MG_eq mg (fr_i F31 208 (by decide))) hg (fun h' fm i8 y => kk h' (FM_trans fm31 fm) (i8.trans (fr_i F31 208 (by decide))) y)
        · omega
        · omega
      · obtain ⟨F31, fm31, f31, mk31⟩ := build 1 h31 e31
        have last : cu + 1 = c := (nI_eq (by omega) (by omega)).mp eq2
        rcases T with ⟨-, q, -⟩ | ⟨-, -, rfl, rfl, rfl, rfl, rfl, rfl, rfl⟩ | ⟨q, -⟩
        · omega
        · exact ih h31 _ _ _ _ _ _ _ R P1 ⟨sp_fr K F31, by rw [f31, u1_s], by rw [f31, u1_n _ _ (by decide), u1_n _ _ (by decide), u1_n _ _ (by decide)]; exact x51, fun z => absurd z (by decide), fun _ => ⟨by rw [f31, u1_n _ _ (by decide), u1_n _ _ (by decide), u1_s, last], by rw [f31, u1_n _ _ (by decide), u1_s]⟩, by rw [f31, u1_n _ _ (by decide), u1_n _ _ (by decide), u1_n _ _ (by decide)]; exact x.2.2.2.2.2.1, mk31⟩ (MG_eq mg (fr_i F31 208 (by decide))) hg (fun h' fm i8 y => kk h' (FM_trans fm31 fm) (i8.trans (fr_i F31 208 (by decide))) y)
        · omega
end MGO2
