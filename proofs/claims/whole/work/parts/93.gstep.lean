/-! gauss: the step. -/
section GSTEP
variable {h : AH} {d bc bs : Nat} {W : Nat → Nat} {N : Nat} {B : Nat → Nat} {S : Nat → Int32} {len : Nat}
theorem st_gauss (x : R0 h W N B S len) (p : Int32) : ST yX11_gauss mX11_gauss yX12_gauss mX12_gauss (d + 5) (d + 5) [.int p] h bc bs W S len := by
  have K := x.2.1
  obtain ⟨h24, hN, hN2, hP⟩ := x.2.2.2.2.1
  have hv := hasP (p := p) hN h24
  refine X11_gauss_e (X11_gauss_0 ⟨o0 K, hasPC K p, fun z => ⟨7, r0_4 K, ?_⟩, fun z => c_no K 2 (by decide) ⟨_, rfl, _, rfl, ?_⟩⟩)
  · have ip : ix p N := Classical.not_not.mp (fun w => z (hv.mpr w))
    obtain ⟨p0, hp0, ep⟩ := ix_of ip (by omega)
    subst ep
    refine c_look x.2 hp0 (Or.inl rfl) (fun h1 n op F => ⟨_, rfl, fun w => absurd rfl w, fun _ => ⟨o0 (sp_fr K F), c_f (sp_fr K F) 3 (by decide) (by decide) ⟨_, rfl, _, rfl, ?_⟩⟩⟩) (fun h1 n l wh F l1 l2 LFh => ⟨_, rfl, fun _ => ?_, fun w => absurd w (by decide)⟩)
    · have Fc := fcs_fr F lkc7
      obtain ⟨-, hn, h40, r, pl, r0, O⟩ := op
      refine X12_gauss_e (X12_gauss_0 ⟨o168 (R1_cF x.2 Fc 3).1, m_refusal (R1_cF x.2 Fc 3) (kc_f Fc 3) hp0 hn h40 O (fun w => absurd w r0) (fun _ h3 G3 => ⟨_, rfl, fun w => absurd w (by decide), fun _ => ⟨rfl, ?_⟩⟩)⟩)
      exact D_f x Fc (by decide) (by decide) G3
    · have K1 := sp_fr K F
      obtain ⟨-, hn, h40, h9, ⟨pl, O⟩, C, M, R⟩ := wh
      have Fl := (opn_0 O).2.2.2
      refine ⟨o0 K1, 7, r0_4 K1, 3, r0_2 K1, o7 K1, c_spell (d := d + 3) (l := l) K1 R h40 Fl l2 LFh (fun h2 t F2 g1 t120 tt tl => ⟨rfl, ?_⟩)⟩
      have K2 := sp_fr K1 F2
      refine ⟨o0 K2, 3, r0_2 K2, o3 K2, grC K2 _, fun h17 e17 => ⟨_, rfl, ?_⟩⟩
      have e17' : h17 = cNo h2 (nI 0) := e17
      clear e17
      rw [grV, g1]
      -- what the reference sees
      have c0 : ∀ a, a ≠ 0 → eqc h2 h17 a := fun a ha => by rw [e17']; exact ⟨by rw [k_cNo], by unfold cNo; rw [f_sf_n _ _ _ _ _ ha], by rw [i_cNo], by unfold cNo; rw [l_sf], by rw [r_cNo], by unfold cNo; rw [q_sf]⟩
      have f0 : ah_f h17 0 = u1 (ah_f h 0) 19 (nI 0) := by
        rw [e17']
        unfold cNo
        rw [f_sf_s, fr_f F2 0 (by decide), fr_f F 0 (by decide)]
      have Ka : sp h17 := by rw [e17']; exact sp_fr (L := [0]) K2 (fr_sf (fr_refl _ h2) (by decide))
      have ra : ah_r h17 = ah_r h := by rw [e17', r_cNo, F2.1.2.2.1, F.1.2.2.1]
      have qa : ah_q h17 = ah_q h := by rw [e17']; unfold cNo; rw [q_sf, F2.1.2.2.2, F.1.2.2.2]
      have na : ah_n h17 = ah_n h := by rw [e17', n_cNo, F2.1.1, F.1.1]
      have ea : ∀ a, a ≠ 0 → a ≠ 3 → a ≠ 4 → a ∉ Cscr → eqc h h17 a := fun a a0 a3 a4 ac => eqc_trans (eqc_fr F (fun q => ac (lkc7 a q))) (eqc_trans (eqc_fr F2 (by simp only [List.mem_cons, List.not_mem_nil, or_false]; omega)) (c0 a a0))
      have m6 : ∀ a, 168 ≤ a → a < 216 → eqc h h17 a := fun a a1 a2 => ea a (by omega) (by omega) (by omega) (fun q => by have := (by decide : ∀ a, a ∈ Cscr → a < 125) a q; omega)
      have t3 : ah_f h17 3 1 = nI (t + 1) := by rw [(c0 3 (by decide)).2.1]; exact g1
      have t4 : ah_i h17 4 = ah_i h2 4 := (c0 4 (by decide)).2.2.1
      rw [← t4] at tt tl
      clear e17' c0 F2 g1 t4 F LFh
      have slh : ∀ s, sl h h17 s := fun s => sl_of s (m6 170 (by decide) (by decide)).2.2.1 (m6 171 (by decide) (by decide)).2.2.1 (m6 172 (by decide) (by decide)).2.2.1 (m6 173 (by decide) (by decide)).2.2.1
      have Mp := mD_sl M h40 (slh p0)
      have r_ : PO n (ah_i h (B p0 + 1)) (ah_i h (B p0 + 2)) := ⟨h40, fun c hc => Or.inr ⟨4, by omega, C.2.2.1 c hc⟩, fun e he => Or.inr ⟨_, R.A100 he, C.2.2.2 e he⟩⟩
      refine X12_gauss_e (X12_gauss_0 ⟨o168 Ka, m_refusalS (L := ah_i h (B p0 + 1)) (A := ah_i h (B p0 + 2)) Ka (by rw [(m6 168 (by decide) (by decide)).2.1]; exact hN2) h24 hp0 Mp.1 r_ (fun c hc => by rw [Mp.2.2.1 c hc, C.2.2.1 c hc]) (fun e he => by rw [Mp.2.2.2 e he, C.2.2.2 e he]) O (fun _ h3 G3 F3 g3 => ⟨_, rfl, fun _ => ?_, fun w => absurd (show (0 : Int32) ≤ nI 0 by decide) w⟩) (fun w => absurd rfl w)⟩)
      have K3 := G3.2.2.1 Ka
      have M3 := mD_sl Mp h40 (G3.2.2.2.2 p0 (by omega))
      refine ⟨o168 K3, m_piecesOf (d := d + 3) K3 (by omega) M3.1 h40 g3 R (fun h5 F5 g5 => ⟨_, rfl, o168 (sp_fr K3 F5), fun h9 e9 => ?_⟩)⟩
      have F9 : fr [168, 181, 182] h3 h9 := by rw [e9]; exact fr_sf (fr_mono F5 (by decide)) (by decide)
      have f9 : ∀ k, k ≠ 29 → ah_f h9 168 k = ah_f h3 168 k := fun k hk => by rw [e9, f_sf_s, u1_n _ _ hk, fr_f F5 168 (by decide)]
      have f29 : ah_f h9 168 29 = nI 0 := by rw [e9, f_sf_s]; exact u1_s _ _ _
      have i9 : ∀ a, ah_i h9 a = ah_i h5 a := fun a => by rw [e9, i_sf]
      have K9 := sp_fr K3 F9
      have M9 : mD h9 p0 n l (AN (ah_i h (B p0 + 2))) := mD_sc M3 F9 (by decide)
      refine m_gauss_loop (l := l) K9 R h40 Fl (by omega) M9.1 M9.2.1 (fun e he => by rw [fr_i F9 176 (by decide)]; exact g3 e he) (by rw [i9, i9]; exact g5) f29 (fun hy t' My y1 y120 yt yl => ?_)
      obtain ⟨ett, eTT⟩ := TT_u _ _ _ _ _ tt yt
      subst ett
      refine ⟨rfl, ?_⟩
      have key : ∀ hz, hz = mNo hy (nI 0) → DONE h hz W S len := by
        intro hz ez
        have Fz : fr [168] hy hz := by rw [ez]; exact fr_sf (fr_refl _ hy) (by decide)
        have fz : ah_f hz 168 = u1 (ah_f hy 168) 0 (nI 0) := by rw [ez]; unfold mNo; rw [f_sf_s]
        have Kz := sp_fr (sp_fr K9 My.1) Fz
        have eall : ∀ a, a ∉ Mscr → a ≠ 191 → eqc h17 hz a := fun a a1 a2 => eqc_trans (G3.2.1 a a1) (eqc_trans (eqc_fr F9 (fun q => a1 ((by decide : ∀ a, a ∈ [168, 181, 182] → a ∈ Mscr) a q))) (eqc_trans (eqc_fr My.1 (fun q => by
          have := (by decide : ∀ a, a ∈ [168, 191] → a ∈ Mscr ∨ a = 191) a q
          rcases this with w | w
          · exact a1 w
          · exact a2 w)) (eqc_fr Fz (fun q => a1 ((by decide : ∀ a, a ∈ [168] → a ∈ Mscr) a q)))))
        have E : ∀ a, a ≠ 0 → a ≠ 3 → a ≠ 4 → a ∉ Cscr → a ∉ Mscr → a ≠ 191 → eqc h hz a := fun a a0 a3 a4 ac am a9 => eqc_trans (ea a a0 a3 a4 ac) (eall a am a9)
        have kz : ∀ k, k ≠ 0 → k ≠ 9 → k ≠ 29 → ah_f hz 168 k = ah_f h 168 k := fun k k0 k9 k29 => by
          rw [fz, u1_n _ _ k0, My.2 k k29, f9 k k29, G3.2.2.2.1 k k9, (m6 168 (by decide) (by decide)).2.1]
        have f0z : ah_f hz 0 = u1 (ah_f h 0) 19 (nI 0) := by rw [(eall 0 (by decide) (by decide)).2.1, f0]
        have L' : LAC hz := LAC_q x.2.2.1 (by
          rw [Fz.1.2.2.1, My.1.1.2.2.1, F9.1.2.2.1, F3.1.2.2.1, ra]) (by
          rw [Fz.1.2.2.2, My.1.1.2.2.2, F9.1.2.2.2, F3.1.2.2.2, qa])
        have sz : ∀ s, s < 364 → sl h hz s := fun s hs => sl_trans (slh s) (sl_trans (G3.2.2.2.2 s hs) (sl_of s (by rw [fr_i Fz 170 (by decide), fr_i My.1 170 (by decide), fr_i F9 170 (by decide)]) (by rw [fr_i Fz 171 (by decide), fr_i My.1 171 (by decide), fr_i F9 171 (by decide)]) (by rw [fr_i Fz 172 (by decide), fr_i My.1 172 (by decide), fr_i F9 172 (by decide)]) (by rw [fr_i Fz 173 (by decide), fr_i My.1 173 (by decide), fr_i F9 173 (by decide)])))
        have y := x.1
        obtain ⟨⟨x5, x6, x7⟩, x8, x9, x10⟩ := x.2.2.2.2.2.2
        have b0 : ∀ a, 216 ≤ a → eqc h hz a := fun a ha => E a (by omega) (by omega) (by omega) (cscr_no ha) (mscr_no ha) (by omega)
        have nz : ah_n hz = ah_n h := by rw [Fz.1.1, My.1.1.1, F9.1.1, G3.1, na]
        refine D_any x Kz L' nz (fun a a1 a2 a3 => E a ?_ ?_ ?_ a1 a2 ?_) (fun k _ _ k19 => by rw [f0z, u1_n _ _ k19]) (fun k k0 k9 _ _ _ k29 _ _ _ => kz k k0 k9 k29) (FC_of y ?_ ?_ ?_ ?_ ?_ ?_ ?_) sz ⟨t + 1, by omega, ?_, ?_, fun k hk => ?_⟩ (NU_eq x6 (E 5 (by decide) (by decide) (by decide) (by decide) (by decide) (by decide)).2.1 (kz 38 (by decide) (by decide) (by decide)) (E 6 (by decide) (by decide) (by decide) (by decide) (by decide) (by decide)).2.2.1 (E 198 (by decide) (by decide) (by decide) (by decide) (by decide) (by decide)).2.2.1) (RS_eq x8 (E 73 (by decide) (by decide) (by decide) (by decide) (by decide) (by decide)) (kz 22 (by decide) (by decide) (by decide)) (E 74 (by decide) (by decide) (by decide) (by decide) (by decide) (by decide)).2.2.2.1 (E 75 (by decide) (by decide) (by decide) (by decide) (by decide) (by decide)).2.2.2.1 (E 186 (by decide) (by decide) (by decide) (by decide) (by decide) (by decide)).2.2.2.1) (SPn_eq x9 (E 32 (by decide) (by decide) (by decide) (by decide) (by decide) (by decide)).2.1 (kz 23 (by decide) (by decide) (by decide))) (BK_eq x10 (fun _ _ => rfl) (E 164 (by decide) (by decide) (by decide) (by decide) (by decide) (by decide)).2.1 (kz 62 (by decide) (by decide) (by decide)) (E 165 (by decide) (by decide) (by decide) (by decide) (by decide) (by decide)).2.2.2.1 (E 166 (by decide) (by decide) (by decide) (by decide) (by decide) (by decide)).2.2.2.2.2 (E 214 (by decide) (by decide) (by decide) (by decide) (by decide) (by decide)).2.2.2.1 (E 215 (by decide) (by decide) (by decide) (by decide) (by decide) (by decide)).2.2.2.1 (fun a a1 _ _ _ => b0 a a1) (by omega))
        · intro q; subst q; exact a3 (by decide)
        · intro q; subst q; exact a3 (by decide)
        · intro q; subst q; exact a3 (by decide)
        · intro q; subst q; exact a3 (by decide)
        · rw [f0z, u1_s, fz, u1_s]
        · rw [f0z, u1_n _ _ (by decide)]
        · rw [f0z, u1_n _ _ (by decide)]
        · exact kz 15 (by decide) (by decide) (by decide)
        · exact kz 60 (by decide) (by decide) (by decide)
        · exact (E 167 (by decide) (by decide) (by decide) (by decide) (by decide) (by decide)).2.2.1
        · exact (E 169 (by decide) (by decide) (by decide) (by decide) (by decide) (by decide)).2.2.1
        · rw [(eall 3 (by decide) (by decide)).2.1]; exact t3
        · rw [fz, u1_n _ _ (by decide)]; exact y1
        · rw [(eall 4 (by decide) (by decide)).2.2.1, fr_i Fz 191 (by decide)]
          by_cases w : k < t
          · exact eTT k w
          · rw [show k = t by omega, tl, yl]
      exact key _ rfl
  · refine X12_gauss_e (X12_gauss_0 ⟨o168 (R1_cNo x.2 (fcs_refl h) (-nI 2)).1, m_refusal_no (R1_cNo x.2 (fcs_refl h) (-nI 2)) (hv.mp z) ⟨_, rfl, fun w => absurd w (by decide), fun _ => ⟨rfl, ?_⟩⟩⟩)
    exact D_no x (fcs_refl h) (-nI 2) (fms_refl _)
end GSTEP
