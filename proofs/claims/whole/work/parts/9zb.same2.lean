/-! same: the step. -/
section SAME2
variable {h h1 h2 h' hz hm : AH} {d bc bs : Nat} {Q : Option Value → AH → Prop} {W W' : Nat → Nat} {N : Nat} {B : Nat → Nat} {S : Nat → Int32} {len : Nat} {u c cu s e f n l na la nb lb w : Nat} {A Ab ma sa mb sb : Nat → Nat} {D : SD} {G : Nat → Nat → (Nat → Nat) → Prop} {st : Int32}
theorem PVI_f (gd : GDp n l A) (hf : (f = 1 ∧ G n l A) ∨ (f = 0 ∧ ¬ G n l A)) : PVI G 1 (fun _ => (n, l, A, 0, 0)) 0 0 0 f := by
  refine ⟨⟨by omega, by omega, by omega, Nat.zero_le _, fun _ _ => gd, fun k k0 k1 => by omega⟩, ⟨by omega, by omega⟩, fun z => absurd z (by decide), fun z _ _ => ?_, fun z => ?_⟩
  · rcases hf with ⟨q, -⟩ | ⟨-, q⟩
    · omega
    · exact q
  · rcases hf with ⟨-, q⟩ | ⟨q, -⟩
    · exact q
    · omega
theorem PVI_NG (P : PVI G c D cu s e f) : PVI NG c D cu s e 0 := ⟨P.1, ⟨P.2.1.1, by omega⟩, P.2.2.1, fun _ _ _ q => q, fun z => absurd z (by decide)⟩
theorem cD_e {b : Nat} (C : cD h b n l A) (e0 : eqc h h' b) (e1 : eqc h h' (b + 1)) (e2 : eqc h h' (b + 2)) : cD h' b n l A := by
  unfold cD
  rw [e0.2.1, e1.2.2.1, e2.2.2.1]
  exact C
theorem st_same (x : R0 h W N B S len) (y : SC h W) (hmax : ah_n h + 1000 ≤ 10000000) (p q m : Int32) : ST3 yX11_same mX11_same yX12_same mX12_same (d + 20) (d + 5) [.int p, .int q, .int m] h (bc + 303) (bs + 10403) S len := by
  have K := x.2.1
  have h216 := K.1
  obtain ⟨h24, hN, hN2, hP⟩ := x.2.2.2.2.1
  obtain ⟨w, w6, hw, hw2⟩ := x.2.2.2.2.2.2.2.2.1
  have hv := hasP (p := p) hN h24
  have hv2 := hasP (p := q) hN h24
  have sv := stepV (v := m) h
  have bad : (¬ ix p N ∨ ¬ ix q N ∨ ¬ ix m 5001) → ex_S yX12_same mX12_same (d + 5) [.ref 168, .int p, .int q, .int m] (cNo h (-nI 2)) 0 0 (fun r' h2 => r' = some (.int (-nI 2)) ∧ DONE3 h h2 S len) := by
    intro nb
    obtain ⟨q1, q3, q4, q5⟩ := see_no x (fcs_refl h) (-nI 2)
    have iv := isP_ (h := cNo h (-nI 2)) (p := p) (N := N) (by rw [q1]; exact hN2) h24
    have iv2 := isP_ (h := cNo h (-nI 2)) (p := q) (N := N) (by rw [q1]; exact hN2) h24
    have iv3 := in5000 (v := m) (cNo h (-nI 2))
    have fin : X12_no_C 168 (-2) (cNo h (-nI 2)) ∧ ∀ h5, h5 = X12_no_H 168 (-2) (cNo h (-nI 2)) → (some (Value.int (X12_no_V 168 (-2) (cNo h (-nI 2)))) = some (.int (-nI 2)) ∧ DONE3 h h5 S len) := ⟨noC q4 _, fun h8 e8 => ⟨rfl, by rw [e8]; exact DONE_3 y (DONE_2 (D_no x (fcs_refl h) (-nI 2) (fms_refl _)))⟩⟩
    refine X12_same_e (X12_same_0 ⟨o168 q4, isPC q4 _, fun _ => fin, fun z => ⟨isPC q4 _, fun _ => fin, fun z2 => ⟨fun z3 => ?_, fun _ => fin⟩⟩⟩)
    rcases nb with t | t | t
    · exact absurd (iv.mpr t) z
    · exact absurd (iv2.mpr t) z2
    · exact absurd (iv3.mpr t) z3
  refine X11_same_e (X11_same_0 ⟨o0 K, hasPC K p, fun z => c_no K 2 (by decide) ⟨_, rfl, _, rfl, bad (Or.inl (hv.mp z))⟩, fun z => ⟨hasPC K q, fun z2 => c_no K 2 (by decide) ⟨_, rfl, _, rfl, bad (Or.inr (Or.inl (hv2.mp z2)))⟩, fun z2 => ⟨fun z3 => ⟨7, r0_4 K, ?_⟩, fun z3 => c_no K 2 (by decide) ⟨_, rfl, _, rfl, bad (Or.inr (Or.inr (sv.mp z3)))⟩⟩⟩⟩)
  have ip : ix p N := Classical.not_not.mp (fun w => z (hv.mpr w))
  have iq : ix q N := Classical.not_not.mp (fun w => z2 (hv2.mpr w))
  have im : ix m 5001 := Classical.not_not.mp (fun w => z3 (sv.mpr w))
  obtain ⟨p0, hp0, ep⟩ := ix_of ip (by omega)
  obtain ⟨q0, hq0, eq⟩ := ix_of iq (by omega)
  obtain ⟨lim, hlim, el⟩ := ix_of im (by decide)
  subst ep
  subst eq
  subst el
  clear bad
  have z00 : (nI 0 : Int32) ≤ 0 := by decide
  have gt0 : ∀ r : Nat, r ≠ 0 → r ≤ 4 → ¬ nI r ≤ (0 : Int32) ∧ (0 : Int32) < nI r := fun r r0 r4 => ⟨fun w => by
    have := (nI_leI (a := r) (b := 0) (by omega) (by omega)).mp w
    omega, (nI_ltI (a := 0) (by omega) (by omega)).mpr (by omega)⟩
  -- the reference refuses open pictures
  have mopen : ∀ hx, fcs h hx → ((∃ n, OP h N B p0 n) ∨ ((∃ n l, WH h N B p0 n l) ∧ ∃ n, OP h N B q0 n)) → ex_S yX12_same mX12_same (d + 5) [.ref 168, .int (nI p0), .int (nI q0), .int (nI lim)] (cF hx 3) 0 0 (fun r' h2 => r' = some (.int (-nI 13)) ∧ DONE3 h h2 S len) := by
    intro hx F why
    obtain ⟨q1, q3, q4, q5⟩ := see_f x F 3
    have hN6 : ah_f (cF hx 3) 168 6 = nI N := by rw [q1]; exact hN2
    have iv := isP_ (h := cF hx 3) (p := nI p0) (N := N) hN6 h24
    have iv2 := isP_ (h := cF hx 3) (p := nI q0) (N := N) hN6 h24
    have iv3 := in5000 (v := nI lim) (cF hx 3)
    have meet : ∀ h', fms (cF hx 3) h' → X12_meets_C 168 3 h' ∧ ∀ h12, h12 = X12_meets_H 168 3 h' → (some (Value.int (X12_meets_V 168 3 h')) = some (.int (-nI 13)) ∧ DONE3 h h12 S len) := fun h' G => ⟨meC (f := 3) (G.2.2.1 q4) (by decide), fun h12 e12 => ⟨rfl, by rw [e12.trans (meH (f := 3) (G.2.2.1 q4) (by decide))]; exact DONE_3 y (DONE_2 (D_f x F (by decide) (by decide) G))⟩⟩
    refine X12_same_e (X12_same_0 ⟨o168 q4, isPC q4 _, fun w => absurd ip (iv.mp w), fun _ => ⟨isPC q4 _, fun w => absurd iq (iv2.mp w), fun _ => ⟨fun _ => ?_, fun w => absurd im (iv3.mp w)⟩⟩⟩)
    rcases why with ⟨n, op⟩ | ⟨⟨n, l, wh⟩, n', op⟩
    · exact m_open_open (d := d + 1) x.2 op q4 (q5 p0) (fun h' r r0 r4 G => ⟨_, rfl, fun _ => ⟨o168 (G.2.2.1 q4), meet h' G⟩, fun w => absurd (gt0 r r0 r4).2 w⟩)
    · refine m_open_whole (d := d + 1) wh h24 q4 (q5 p0) (fun h' G g => ⟨_, rfl, fun w => absurd w (by decide), fun _ => ⟨o168 (G.2.2.1 q4), ?_⟩⟩)
      have Kg := G.2.2.1 q4
      exact m_open_open (d := d + 1) x.2 op Kg (sl_trans (q5 q0) (G.2.2.2.2 q0 (by omega))) (fun h'' r r0 r4 G' => ⟨_, rfl, fun w => absurd w (gt0 r r0 r4).1, fun _ => ⟨o168 (G'.2.2.1 Kg), meet h'' (fms_trans G G')⟩⟩)
  refine c_look (d := d + 15) x.2 hp0 (Or.inl rfl) (fun h1 n op F => ⟨_, rfl, fun _ => ⟨o0 (sp_fr K F), c_f (sp_fr K F) 3 (by decide) (by decide) ⟨_, rfl, _, rfl, mopen h1 (fcs_fr F lkc7) (Or.inl ⟨n, op⟩)⟩⟩, fun w => absurd rfl w⟩) (fun h1 na la wh1 F1 k1 k1' LF1 => ⟨_, rfl, fun w => absurd w (by decide), fun _ => ⟨o0 (sp_fr K F1), 18, r0_5 (sp_fr K F1), ?_⟩⟩)
  have K1 := sp_fr K F1
  have Fc1 := fcs_fr F1 lkc7
  have xr1 := R1_fcs x.2 Fc1
  refine c_look (d := d + 15) xr1 hq0 (Or.inr rfl) (fun h2 n op F => ⟨_, rfl, fun w => absurd rfl w, fun _ => ⟨o0 (sp_fr K1 F), c_f (sp_fr K1 F) 3 (by decide) (by decide) ⟨_, rfl, _, rfl, mopen h2 (fcs_trans Fc1 (fcs_fr F lkc18)) (Or.inr ⟨⟨na, la, wh1⟩, n, OP_back x.2 Fc1 op⟩)⟩⟩⟩) (fun h2 nb lb wh2' F2 k2 k2' LF2 => ⟨_, rfl, fun _ => ?_, fun w => absurd w (by decide)⟩)
  clear mopen
  have K2 := sp_fr K1 F2
  have Fc2 := fcs_trans Fc1 (fcs_fr F2 lkc18)
  obtain ⟨wh2, eA2⟩ := WH_back x.2 Fc1 wh2'
  rw [eA2] at LF2
  have h41 := wh1.2.2.1
  have h42 := wh2.2.2.1
  have l9 := wh1.2.2.2.1
  have l9' := wh2.2.2.2.1
  have R1_ := wh1.2.2.2.2.2.2.2
  have R2_ := wh2.2.2.2.2.2.2.2
  have k17 : ah_f h2 7 10 = nI na := by rw [fr_f F2 7 (by decide)]; exact k1
  have c12 : nI na ≤ (12 : Int32) ↔ na ≤ 12 := nI_leI (b := 12) (by omega) (by omega)
  refine ⟨o0 K2, 7, r0_4 K2, o7 K2, ?_⟩
  rw [k17, c12]
  refine ⟨fun n12 => ?_, fun gt => c_f K2 7 (by decide) (by decide) ⟨_, rfl, _, rfl, ?_⟩⟩
  · -- small enough
    obtain ⟨sa, hsa⟩ := so_ex R1_
    obtain ⟨sb, hsb⟩ := so_ex R2_
    obtain ⟨wa, va1, va2, ea⟩ := wr_i na (mt na (AN (ah_i h (B p0 + 2)))) na
    obtain ⟨wb, vb1, vb2, eb⟩ := wr_i nb (mt nb (AN (ah_i h (B q0 + 2)))) nb
    have xa : LKd h2 7 na la (mt na (AN (ah_i h (B p0 + 2)))) := ⟨k17, by rw [fr_f F2 7 (by decide)]; exact k1', fun e he => by rw [fr_i F2 8 (by decide)]; exact LF1.1 e he, by rw [fr_f F2 7 (by decide)]; exact LF1.2.2.2.2.1, by rw [fr_f F2 7 (by decide)]; exact LF1.2.2.2.2.2.2.2.2⟩
    have xb : LKd h2 18 nb lb (mt nb (AN (ah_i h (B q0 + 2)))) := ⟨k2, k2', fun e he => LF2.1 e he, LF2.2.2.2.2.1, LF2.2.2.2.2.2.2.2.2⟩
    have L2 := Fc2.2.2.2 x.2.2.1
    have O2 : OLD h2 S len := (R1_fcs x.2 Fc2).2.2.1
    have hw32 : ah_f h2 32 3 = nI w := by rw [(Fc2.2.1 32 (by decide)).2.1]; exact hw
    refine c_part2 (d := d) (wa := wa) (wb := wb) K2 L2 O2 R1_ R2_ n12 h42 l9 l9' xa xb hsa hsb hw32 w6 ea eb ⟨va1, va2⟩ ⟨vb1, vb2⟩ (fun v w' h27 oc v6 cn2 => ⟨_, rfl, fun _ => ?_, fun lt => absurd ((nI_leI (a := 0) (by omega) (by omega)).mpr (Nat.zero_le _)) lt⟩) (fun po b14 lw h27 F27 => ⟨_, rfl, fun ge => absurd ge (by decide), fun _ => ⟨o0 (F27.2.2.1 K2), c_f (F27.2.2.1 K2) 9 (by decide) (by decide) ⟨_, rfl, _, rfl, ?_⟩⟩⟩)
    · have cn := CNf_trans x.2.2.1 Fc2 cn2
      have K27 := cn.2.2.1
      refine ⟨o0 K27, fun h31 e31 => ?_⟩
      have F31 : fr [0] h27 h31 := by rw [e31]; exact fr_sf (fr_refl _ h27) (by decide)
      have f31 : ah_f h31 0 = u1 (ah_f h27 0) 18 (nI v) := by rw [e31, f_sf_s]
      have fx31 : FX W h h31 := FX_trans (FX_CN cn) (fun _ _ => rfl) (FX_18 K27 cn.2.2.2.1 e31)
      clear e31
      have n31 : ah_n h31 = ah_n h := F31.1.1.trans cn.1
      have K31 := sp_fr K27 F31
      have e31 : ∀ a, a ∉ Cscr → a ≠ 32 → a ≠ 0 → eqc h h31 a := fun a a1 a2 a3 => eqc_trans (cn.2.1 a a1 a2) (eqc_fr F31 (by simpa using a3))
      have eS : ∀ a, 125 ≤ a → a < 216 → eqc h h31 a := fun a a1 a2 => e31 a (fun q => by have := (by decide +kernel : ∀ a, a ∈ Cscr → a < 125) a q; omega) (by omega) (by omega)
      have eB : ∀ a, 216 ≤ a → eqc h h31 a := fun a a1 => e31 a (cscr_no a1) (by omega) (by omega)
      have w31 : ah_f h31 32 3 = nI w' := by rw [fr_f F31 32 (by decide)]; exact cn.2.2.2.2.1
      have v0iff : nI v = (0 : Int32) ↔ v = 0 := nI_eq (b := 0) (by omega) (by omega)
      rw [v0iff]
      refine ⟨fun v0 => ?_, fun vn => ⟨grC K31 _, fun h64 e64 => ⟨_, rfl, ?_⟩⟩⟩
      · -- nothing parts them: the search
        subst v0
        have y0 := y
        obtain ⟨u, su, y2⟩ := y
        have su31 : SU h31 W u := SU_eq su (by omega) (fun _ _ => rfl) (eS 126 (by decide) (by decide)).2.2.2.2.2 (fun a a1 _ _ => eB a a1)
        obtain ⟨px1, px2, px3, pxw, -⟩ := (hP p0 hp0).2
        obtain ⟨qx1, qx2, qx3, ⟨qw0, qw1, qw2⟩, -⟩ := (hP q0 hq0).2
        have hq1 : ah_q h31 1 p0 = some (B p0) := by rw [(e31 1 (by decide) (by decide) (by decide)).2.2.2.2.2]; exact (hP p0 hp0).1
        have gd : GDp na la (AN (ah_i h (B p0 + 2))) := ⟨n12, l9, R1_⟩
        have C31 : cD h31 (B p0) na la (AN (ah_i h (B p0 + 2))) := cD_e wh1.2.2.2.2.2.1 (eB _ px1) (eB _ (by omega)) (eB _ (by omega))
        refine ⟨125, r0_12 K31, 1, r0_0 K31, (s1 K31 _).mpr ((ix_nI (by omega)).mpr (by omega)), B p0, by rw [nI_clamp (by omega)]; exact hq1, o125 K31, ?_⟩
        refine c_begin (d := d + 14) (W := W) (u := u) K31 su31 (pt_eq px3 (eB _ px1) (eB _ (by omega)) (eB _ (by omega)) (by omega)) px1 C31 gd (by omega) (fun h37 W1 u1_ hW1 fb1 b8 ci1 hu1 hn1 => ⟨rfl, ?_⟩)
        have K37 := ci1.1
        have u100 := ci1.2.1.1.1
        have lo37 : ∀ a, a < 216 → ¬ SQ a → eqc h31 h37 a := fun a a1 a2 => fb1.2.1 a (Or.inl ⟨a1, a2⟩)
        have q37 : ∀ a, 216 ≤ a → a < ah_n h → W a = q0 → eqc h h37 a := fun a a1 a2 a3 => eqc_trans (eB a a1) (fb1.2.1 a (Or.inr (Or.inr ⟨a1, by omega, by omega⟩)))
        have hq2 : ah_q h37 1 q0 = some (B q0) := by rw [(lo37 1 (by decide) (nSQ (by decide))).2.2.2.2.2, (e31 1 (by decide) (by decide) (by decide)).2.2.2.2.2]; exact (hP q0 hq0).1
        have C37 : cD h37 (B q0) nb lb (AN (ah_i h (B q0 + 2))) := cD_e wh2.2.2.2.2.2.1 (q37 _ qx1 (by omega) qw0) (q37 _ (by omega) (by omega) qw1) (q37 _ (by omega) (by omega) qw2)
        refine ⟨o0 K37, 125, r0_12 K37, 1, r0_0 K37, (s1 K37 _).mpr ((ix_nI (by omega)).mpr (by omega)), B q0, by rw [nI_clamp (by omega)]; exact hq2, o125 K37, ?_⟩
        refine c_aimAt (d := d + 15) ci1 gd (pt_eq qx3 (q37 _ qx1 (by omega) qw0) (q37 _ (by omega) (by omega) qw1) (q37 _ (by omega) (by omega) qw2) (by omega)) qx1 C37 h42 l9' R2_ (fun h44 f F44 fj44 hf ci44 => ⟨rfl, ?_⟩)
        have K44 := ci44.1
        refine ⟨o0 K44, 125, r0_12 K44, o125 K44, c_go (d := d + 14) (lim := lim) (by omega) (PVI_f gd hf) ci44 (fun z => absurd z (by decide)) (by rw [F44.1.1]; omega) (fun h48 W' u' c' D' cu' s' g' e' f' j R hW fq ci' hu hn => ⟨_, rfl, ?_⟩)⟩
        have K48 := ci'.1
        have P' := RU_PVI j 1 _ 0 0 0 0 f (PVI_f (G := fun n' l' A' => AK n' l' A' nb lb (AN (ah_i h (B q0 + 2)))) gd hf) R
        have c0 := P'.1.1
        obtain ⟨L, l1, l2, l3⟩ := chn_len (F := fun k => (D' k).2.2.2.1) (c := c') (fun k k0 k1 => (P'.1.2.2.2.2.2 k k0 k1).1) (c' - 1) (by omega)
        refine ⟨o0 K48, 125, r0_12 K48, o125 K48, c_takeAim (d := d + 17) (L := L) ci' P'.2.1.2 c0 rfl rfl l1 l2 l3 (fun h53 F53 b53 ci53 w1 w0 => ⟨_, rfl, ?_⟩)⟩
        have K53 := ci53.1
        have f01 := P'.2.1.2
        have u100' := ci53.2.1.1.1
        -- frames
        have La31 := fx31.2.2.2.1
        have fx37 : FX W h31 h37 := FX_FB La31 fb1
        have fx44 : FX W1 h37 h44 := FX_fr K37 fx37.2.2.2.1 F44 (fun a q => by have := (by decide : ∀ a, a ∈ amL → 125 ≤ a ∧ a ≤ 163) a q; exact this)
        have fx48 : FX W1 h44 h48 := FX_FB fx44.2.2.2.1 (FB_FQ fq)
        have fx53 : FX W' h48 h53 := FX_fr K48 fx48.2.2.2.1 F53 (fun a q => by have := (by decide : ∀ a, a ∈ [125, 134, 135] → 125 ≤ a ∧ a ≤ 163) a q; exact this)
        have n37 := fx37.1
        have n44 : ah_n h44 = ah_n h37 := F44.1.1
        have n53 : ah_n h53 = ah_n h48 := F53.1.1
        have hW1' : ∀ a, a < ah_n h → W1 a = W a := fun a ha => hW1 a (by omega)
        have hW' : ∀ a, a < ah_n h → W' a = W a := fun a ha => (hW a (by omega)).trans (hW1' a ha)
        have fx : FX W h h53 := FX_trans fx31 (fun _ _ => rfl) (FX_trans fx37 hW1 (FX_trans (W' := W1) fx44 (fun _ _ => rfl) (FX_trans fx48 (fun a ha => hW a ha) fx53)))
        have sz : ∀ a, a = 134 ∨ a = 135 → eqc h h48 a := fun a ha => eqc_trans (eS a (by omega) (by omega)) (eqc_trans (lo37 a (by omega) (nSQ (by omega))) (eqc_trans (eqc_fr F44 (fun q => by have := (by decide : ∀ a, a ∈ amL → a ≠ 134 ∧ a ≠ 135) a q; omega)) (fq.2.1 a (Or.inl ⟨by omega, nSQ (by omega)⟩))))
        have f018 : ah_f h53 0 18 = nI 0 := by
          rw [fr_f F53 0 (by decide), (fq.2.1 0 (Or.inl ⟨by decide, nSQ (by decide)⟩)).2.1, fr_f F44 0 (by decide), (lo37 0 (by decide) (nSQ (by decide))).2.1, f31, u1_s]
        have w53 : ah_f h53 32 3 = nI w' := by
          rw [fr_f F53 32 (by decide), (fq.2.1 32 (Or.inl ⟨by decide, nSQ (by decide)⟩)).2.1, fr_f F44 32 (by decide), (lo37 32 (by decide) (nSQ (by decide))).2.1]
          exact w31
        have b53' : ah_f h53 125 8 = 1 := by rw [b53, fq.2.2.2.1, fj44 8 (by decide) (by decide)]; exact b8
        -- the reference
        have ecz : ∀ a, a ≠ 0 → eqc h53 (cNo h53 (nI 0)) a := fun a ha => ⟨rfl, f_sf_n _ _ _ _ _ ha, rfl, rfl, rfl, rfl⟩
        have mz : ∀ a, 168 ≤ a → a < 216 → eqc h (cNo h53 (nI 0)) a := fun a a1 a2 => eqc_trans (fx.2.1 a (Or.inl ⟨a2, fun q => by have := (by decide +kernel : ∀ a, a ∈ Cscr → a < 125) a q; omega, by omega, by omega, by omega⟩)) (ecz a (by omega))
        have Kz : sp (cNo h53 (nI 0)) := sp_fr (L := [0]) K53 (fr_sf (fr_refl _ h53) (by decide))
        have slz : ∀ t, sl h (cNo h53 (nI 0)) t := fun t => sl_of t (mz 170 (by decide) (by decide)).2.2.1 (mz 171 (by decide) (by decide)).2.2.1 (mz 172 (by decide) (by decide)).2.2.1 (mz 173 (by decide) (by decide)).2.2.1
        have f168 := (mz 168 (by decide) (by decide)).2.1
        have ref : ex_S yX12_same mX12_same (d + 5) [.ref 168, .int (nI p0), .int (nI q0), .int (nI lim)] (cNo h53 (nI 0)) 0 0 (fun r' h2 => r' = some (.int (if f' = 1 then 1 else -1)) ∧ DONE3 h h2 S len) := by
          refine m_sameA (d := d) (v := 0) (w := w) (w' := w') (wa := wa) (wb := wb) Kz h24 (by rw [f168]; exact hN2) slz wh1 wh2 n12 hlim hsa hsb (by rw [f168]; exact hw2) w6 ea eb ⟨va1, va2⟩ ⟨vb1, vb2⟩ oc (fun hm fn => ?_)
          have Km := fn.2.2.1
          have M1 := mD_sl (mD_sl wh1.2.2.2.2.2.2.1 h41 (slz p0)) h41 (fn.2.2.2.2.1 p0 (by omega))
          have M2 := mD_sl (mD_sl wh2.2.2.2.2.2.2.1 h42 (slz q0)) h42 (fn.2.2.2.2.1 q0 (by omega))
          refine m_same0 (d := d) (L := L) Km (by omega) (by omega) M1 M2 gd h42 l9' R2_ (by omega) R hf rfl rfl l1 l2 l3 (fun hE fy e60 e49 e23 mi v1 v0 => ⟨rfl, ?_⟩)
          have fyE : FY (cNo h53 (nI 0)) hE := FY_trans (FY_FN fn) fy
          have eE : ∀ a, a ∉ Mscr → ¬ (209 ≤ a ∧ a ≤ 212) → eqc (cNo h53 (nI 0)) hE a := fyE.2.1
          have f59 : ah_f hm 168 59 = ah_f h 168 59 := by rw [fn.2.2.2.1 59 (by decide) (by decide), f168]
          have i212 : ah_i hm 212 = ah_i h 212 := by rw [(fn.2.1 212 (by decide)).2.2.1, (mz 212 (by decide) (by decide)).2.2.1]
          have g134 : ah_f hE 134 = ah_f h53 134 := by rw [(eE 134 (by decide) (by decide)).2.1, (ecz 134 (by decide)).2.1]
          have g135 : ah_i hE 135 = ah_i h53 135 := by rw [(eE 135 (by decide) (by decide)).2.2.1, (ecz 135 (by decide)).2.2.1]
          have nu : NU hE 134 135 59 212 100 := by
            by_cases q : f' = 1
            · obtain ⟨a1, a2⟩ := w1 q
              obtain ⟨b1, b2⟩ := v1 q
              have c100 := P'.1.2.1
              exact ⟨L, by omega, by rw [g134]; exact a1, b1, fun k hk => by rw [g135, a2 k hk, b2 k hk]⟩
            · have q0_ : f' = 0 := by omega
              obtain ⟨a1, a2⟩ := w0 q0_
              obtain ⟨b1, b2⟩ := v0 q0_
              exact NU_eq x.2.2.2.2.2.2.1.2.2 (by rw [g134, a1, (sz 134 (Or.inl rfl)).2.1]) (by rw [b1, f59]) (by rw [g135, a2, (sz 135 (Or.inr rfl)).2.2.1]) (by rw [b2, i212])
          have spn : SPn hE := ⟨w', cn.2.2.2.2.2, by rw [(eE 32 (by decide) (by decide)).2.1, (ecz 32 (by decide)).2.1]; exact w53, by rw [e23]; exact fn.2.2.2.2.2⟩
          have e018 : ah_f hE 0 18 = ah_f hE 168 60 := by
            rw [e60, (eE 0 (by decide) (by decide)).2.1]
            unfold cNo
            rw [f_sf_s, u1_n _ _ (by decide)]
            exact f018
          have st0 : (0 : Int32) + nI g' = 0 + nI g' := rfl
          refine ⟨W', N, B, D_X x hW' fx (nI 0) fyE e018 nu spn, SC_end (PVI_NG P') ci53 ⟨fyE.1, eE⟩ b53' e49 mi, ?_, ?_⟩
          · show ah_n h ≤ ah_n hE
            rw [fyE.1]
            show ah_n h ≤ ah_n h53
            exact fx.1
          · show ah_n hE ≤ _
            rw [fyE.1]
            show ah_n h53 ≤ _
            omega
        have f0iff : nI f' = (0 : Int32) ↔ f' = 0 := nI_eq (b := 0) (by omega) (by omega)
        rw [f0iff]
        refine ⟨fun f0 => ⟨o0 K53, grC K53 _, fun h59 e59 => ⟨_, rfl, ?_⟩⟩, fun f1 => ⟨o0 K53, grC K53 _, fun h62 e62 => ⟨_, rfl, ?_⟩⟩⟩
        · have e59' : h59 = cNo h53 (nI 0) := e59
          rw [e59']
          rw [if_neg (by omega)] at ref
          exact ref
        · have e62' : h62 = cNo h53 (nI 0) := e62
          rw [e62']
          rw [if_pos (by omega)] at ref
          exact ref
      · -- something parts them
        have e64' : h64 = cNo h31 (nI 0) := e64
        rw [e64']
        have ecz : ∀ a, a ≠ 0 → eqc h31 (cNo h31 (nI 0)) a := fun a ha => ⟨rfl, f_sf_n _ _ _ _ _ ha, rfl, rfl, rfl, rfl⟩
        have mz : ∀ a, 168 ≤ a → a < 216 → eqc h (cNo h31 (nI 0)) a := fun a a1 a2 => eqc_trans (eS a (by omega) a2) (ecz a (by omega))
        have Kz : sp (cNo h31 (nI 0)) := sp_fr (L := [0]) K31 (fr_sf (fr_refl _ h31) (by decide))
        have slz : ∀ t, sl h (cNo h31 (nI 0)) t := fun t => sl_of t (mz 170 (by decide) (by decide)).2.2.1 (mz 171 (by decide) (by decide)).2.2.1 (mz 172 (by decide) (by decide)).2.2.1 (mz 173 (by decide) (by decide)).2.2.1
        have f168 := (mz 168 (by decide) (by decide)).2.1
        refine m_sameA (d := d) (v := v) (w := w) (w' := w') (wa := wa) (wb := wb) Kz h24 (by rw [f168]; exact hN2) slz wh1 wh2 n12 hlim hsa hsb (by rw [f168]; exact hw2) w6 ea eb ⟨va1, va2⟩ ⟨vb1, vb2⟩ oc (fun hm fn => ?_)
        have Km := fn.2.2.1
        have vle : nI v ≤ (0 : Int32) ↔ v ≤ 0 := nI_leI (b := 0) (by omega) (by omega)
        refine X12_same_142 ⟨o168 Km, fun h2_ e2_ => ⟨fun w => absurd (vle.mp w) (by omega), fun _ => ?_⟩⟩
        have F2_ : fr [168] hm h2_ := by rw [e2_]; exact fr_sf (fr_refl _ hm) (by decide)
        have f2_ : ah_f h2_ 168 = u1 (ah_f hm 168) 60 (nI v) := by rw [e2_, f_sf_s]
        have fyE : FY (cNo h31 (nI 0)) h2_ := FY_trans (FY_FN fn) (FY_f Km rfl e2_)
        clear e2_
        have KE_ := sp_fr Km F2_
        refine ⟨weC KE_ _, fun h39 e39 => ⟨rfl, ?_⟩⟩
        rw [e39, weH]
        have eE : ∀ a, a ∉ Mscr → eqc (cNo h31 (nI 0)) h2_ a := fun a a1 => eqc_trans (fn.2.1 a a1) (eqc_fr F2_ (fun q => a1 (by
          simp only [List.mem_cons, List.not_mem_nil, or_false] at q
          rw [q]
          decide)))
        have fkE : ∀ k, k ≠ 9 → k ≠ 23 → k ≠ 60 → ah_f h2_ 168 k = ah_f h 168 k := fun k k1 k2 k3 => by rw [f2_, u1_n _ _ k3, fn.2.2.2.1 k k1 k2, f168]
        have chE : ∀ a, a ∉ Cscr → a ≠ 32 → a ≠ 0 → a ∉ Mscr → eqc h h2_ a := fun a a1 a2 a3 a4 => eqc_trans (e31 a a1 a2 a3) (eqc_trans (ecz a a3) (eE a a4))
        have nu : NU h2_ 134 135 59 212 100 := NU_eq x.2.2.2.2.2.2.1.2.2 (chE 134 (by decide) (by decide) (by decide) (by decide)).2.1 (fkE 59 (by decide) (by decide) (by decide)) (chE 135 (by decide) (by decide) (by decide) (by decide)).2.2.1 (chE 212 (by decide) (by decide) (by decide) (by decide)).2.2.1
        have spn : SPn h2_ := ⟨w', cn.2.2.2.2.2, by rw [(eE 32 (by decide)).2.1, (ecz 32 (by decide)).2.1]; exact w31, by rw [f2_, u1_n _ _ (by decide)]; exact fn.2.2.2.2.2⟩
        have e018 : ah_f h2_ 0 18 = ah_f h2_ 168 60 := by
          rw [f2_, u1_s, (eE 0 (by decide)).2.1]
          unfold cNo
          rw [f_sf_s, u1_n _ _ (by decide), f31, u1_s]
        have ezz : ∀ a, a ≠ 168 → eqc h2_ (mNo h2_ (nI 0)) a := fun a ha => ⟨rfl, f_sf_n _ _ _ _ _ ha, rfl, rfl, rfl, rfl⟩
        have Kzz : sp (mNo h2_ (nI 0)) := sp_fr (L := [168]) KE_ (fr_sf (fr_refl _ h2_) (by decide))
        have nE : ah_n (mNo h2_ (nI 0)) = ah_n h := by
          show ah_n h2_ = _
          rw [fyE.1]
          exact n31
        refine ⟨W, N, B, D_X x (fun _ _ => rfl) fx31 (nI 0) fyE e018 nu spn, SC_e y Kzz (by omega) (fun _ _ => rfl) (fun a a1 a2 a3 => eqc_trans (chE a (fun q => by have := (by decide +kernel : ∀ a, a ∈ Cscr → a < 125) a q; omega) (by omega) (by omega) (mscr168 (by omega))) (ezz a (by omega))) (fun a a1 _ _ => eqc_trans (chE a (cscr_no a1) (by omega) (by omega) (mscr_no a1)) (ezz a (by omega))) (fun k k1 k2 => ?_) (fun a a1 a2 => (eqc_trans (chE a (fun q => by have := (by decide +kernel : ∀ a, a ∈ Cscr → a < 125) a q; omega) (by omega) (by omega) (fun q => by have := (by decide +kernel : ∀ a, a ∈ Mscr → ¬ (209 ≤ a ∧ a ≤ 211)) a q; omega)) (ezz a (by omega))).2.2.1) (fun t t1 t2 => sl_trans (slz t) (sl_trans (fn.2.2.2.2.1 t t2) (sl_trans (sl_of t (fr_i F2_ 170 (by decide)) (fr_i F2_ 171 (by decide)) (fr_i F2_ 172 (by decide)) (fr_i F2_ 173 (by decide))) (sl_of t rfl rfl rfl rfl)))), by omega, by omega⟩
        unfold mNo
        rw [f_sf_s, u1_n _ _ (by omega)]
        exact fkE k (by omega) (by omega) (by omega)
    · -- too much work
      have Fc := fcs_trans Fc2 F27
      obtain ⟨q1, q3, q4, q5⟩ := see_f x Fc 9
      have hN6 : ah_f (cF h27 9) 168 6 = nI N := by rw [q1]; exact hN2
      have iv := isP_ (h := cF h27 9) (p := nI p0) (N := N) hN6 h24
      have iv2 := isP_ (h := cF h27 9) (p := nI q0) (N := N) hN6 h24
      have iv3 := in5000 (v := nI lim) (cF h27 9)
      refine X12_same_e (X12_same_0 ⟨o168 q4, isPC q4 _, fun w => absurd ip (iv.mp w), fun _ => ⟨isPC q4 _, fun w => absurd iq (iv2.mp w), fun _ => ⟨fun _ => ?_, fun w => absurd im (iv3.mp w)⟩⟩⟩)
      refine m_open_whole (d := d + 1) wh1 h24 q4 (q5 p0) (fun h11 G11 g11 => ⟨_, rfl, fun w => absurd w (by decide), fun _ => ⟨o168 (G11.2.2.1 q4), ?_⟩⟩)
      have K11 := G11.2.2.1 q4
      refine m_open_whole (d := d + 1) wh2 h24 K11 (sl_trans (q5 q0) (G11.2.2.2.2 q0 (by omega))) (fun h17 G17 g17 => ⟨_, rfl, fun _ => ⟨o168 (G17.2.2.1 K11), 170, r168_2 (G17.2.2.1 K11), ?_⟩, fun w => absurd z00 w⟩)
      have K17 := G17.2.2.1 K11
      have G17' := fms_trans G11 G17
      have M1 := mD_sl (mD_sl wh1.2.2.2.2.2.2.1 h41 (q5 p0)) h41 (G17'.2.2.2.2 p0 (by omega))
      have M2 := mD_sl (mD_sl wh2.2.2.2.2.2.2.1 h42 (q5 q0)) h42 (G17'.2.2.2.2 q0 (by omega))
      rw [nI_clamp (by omega), M1.1, c12]
      refine ⟨(s170 K17 _).mpr ((ix_nI (by omega)).mpr (by omega)), fun _ => ?_, fun w => absurd n12 w⟩
      refine m_partsBy (d := d + 2) (v := 6) K17 (by omega) (by omega) M1 M2 R1_ R2_ n12 h42 l9 l9' hsa hsb po (fun h25 G25 => ⟨_, rfl, fun w => absurd rfl w, fun _ => ?_⟩)
      have G25' := fms_trans G17' G25
      have K25 := G25'.2.2.1 q4
      have N1 := mD_sl M1 h41 (G25.2.2.2.2 p0 (by omega))
      have N2 := mD_sl M2 h42 (G25.2.2.2.2 q0 (by omega))
      have w25 : ah_f h25 168 23 = nI w := by rw [G25'.2.2.2.1 23 (by decide), q1]; exact hw2
      have pa14 : 2 ^ na ≤ 2 ^ 14 := Nat.pow_le_pow_right (by decide) (by omega)
      have pb14 : 2 ^ nb ≤ 2 ^ 14 := Nat.pow_le_pow_right (by decide) b14
      have cw : nI (w + 2 ^ na + 2 ^ nb) ≤ (1000000 : Int32) ↔ w + 2 ^ na + 2 ^ nb ≤ 1000000 := nI_leI (b := 1000000) (by omega) (by omega)
      refine ⟨o168 K25, 170, r168_2 K25, (s170 K25 _).mpr ((ix_nI (by omega)).mpr (by omega)), (s170 K25 _).mpr ((ix_nI (by omega)).mpr (by omega)), ?_⟩
      rw [nI_clamp (by omega), N1.1, N2.1, w25, shl1 (by omega), shl1 b14, nI_add, nI_add, cw]
      refine ⟨fun z => absurd z (by omega), fun _ => ⟨meC (f := 9) K25 (by decide), fun h37 e37 => ⟨rfl, ?_⟩⟩⟩
      rw [e37.trans (meH (f := 9) K25 (by decide))]
      exact DONE_3 y (DONE_2 (D_f x Fc (by decide) (by decide) G25'))
  · -- too great
    obtain ⟨q1, q3, q4, q5⟩ := see_f x Fc2 7
    have hN6 : ah_f (cF h2 7) 168 6 = nI N := by rw [q1]; exact hN2
    have iv := isP_ (h := cF h2 7) (p := nI p0) (N := N) hN6 h24
    have iv2 := isP_ (h := cF h2 7) (p := nI q0) (N := N) hN6 h24
    have iv3 := in5000 (v := nI lim) (cF h2 7)
    refine X12_same_e (X12_same_0 ⟨o168 q4, isPC q4 _, fun w => absurd ip (iv.mp w), fun _ => ⟨isPC q4 _, fun w => absurd iq (iv2.mp w), fun _ => ⟨fun _ => ?_, fun w => absurd im (iv3.mp w)⟩⟩⟩)
    refine m_open_whole (d := d + 1) wh1 h24 q4 (q5 p0) (fun h11 G11 g11 => ⟨_, rfl, fun w => absurd w (by decide), fun _ => ⟨o168 (G11.2.2.1 q4), ?_⟩⟩)
    have K11 := G11.2.2.1 q4
    refine m_open_whole (d := d + 1) wh2 h24 K11 (sl_trans (q5 q0) (G11.2.2.2.2 q0 (by omega))) (fun h17 G17 g17 => ⟨_, rfl, fun _ => ⟨o168 (G17.2.2.1 K11), 170, r168_2 (G17.2.2.1 K11), ?_⟩, fun w => absurd z00 w⟩)
    have K17 := G17.2.2.1 K11
    have G17' := fms_trans G11 G17
    have M1 := mD_sl (mD_sl wh1.2.2.2.2.2.2.1 h41 (q5 p0)) h41 (G17'.2.2.2.2 p0 (by omega))
    rw [nI_clamp (by omega), M1.1, c12]
    refine ⟨(s170 K17 _).mpr ((ix_nI (by omega)).mpr (by omega)), fun w => absurd w gt, fun _ => ⟨meC (f := 7) K17 (by decide), fun h39 e39 => ⟨rfl, ?_⟩⟩⟩
    rw [e39.trans (meH (f := 7) K17 (by decide))]
    exact DONE_3 y (DONE_2 (D_f x Fc2 (by decide) (by decide) G17'))
end SAME2
