/-! begin and beginSearch; go and goes. -/
section SBEGIN
variable {h h1 h2 h' : AH} {d bc bs : Nat} {Q : Option Value → AH → Prop} {W W' : Nat → Nat} {u c cu s e f n l : Nat} {A : Nat → Nat} {D : SD} {G : Nat → Nat → (Nat → Nat) → Prop} {st : Int32}
theorem cD_take {hx hy : AH} {b c : Nat} (C : cD hx c n l A) (h40 : n ≤ 40) (t1 : ah_f hy b = u1 (u1 (ah_f hx b) 2 (ah_f hx c 2)) 3 (ah_f hx c 3)) (t2 : ah_i hy (b + 1) = va_cpy (ah_i hx (c + 1)) (ah_i hx (b + 1)) 0 0 40) (t3 : ah_i hy (b + 2) = va_cpy (ah_i hx (c + 2)) (ah_i hx (b + 2)) 0 0 160) : cD hy b n l A := by
  obtain ⟨d1, d2, d3, d4⟩ := C
  refine ⟨?_, ?_, fun c hc => ?_, fun e he => ?_⟩
  · rw [t1, u1_n _ _ (by decide), u1_s]; exact d1
  · rw [t1, u1_s]; exact d2
  · rw [t2, pk_cpy_in (Nat.zero_le _) (by omega), Nat.zero_add, Nat.sub_zero]
    exact d3 c hc
  · rw [t3, pk_cpy_in (Nat.zero_le _) (by omega), Nat.zero_add, Nat.sub_zero]
    exact d4 e he
theorem SQ125 : ∀ a, a ∈ [125] → SQ a := fun a q => by
  simp only [List.mem_cons, List.not_mem_nil, or_false] at q
  exact Or.inl q
theorem SQ139 : ∀ a, a ∈ [139, 139 + 1, 139 + 2] → SQ a := fun a q => by
  simp only [List.mem_cons, List.not_mem_nil, or_false] at q
  unfold SQ
  omega
theorem c_begin {b : Nat} (K : sp h) (su : SU h W u) (P : pt h b) (hb : 216 ≤ b) (C : cD h b n l A) (gd : GDp n l A) (hmax : ah_n h + 3 ≤ 10000000) (kk : ∀ h' W' u', (∀ a, a < ah_n h → W' a = W a) → FB W h h' → ah_f h' 125 8 = 1 → CI h' W' u' 1 (fun _ => (n, l, A, 0, 0)) 0 0 0 0 NG 0 → u ≤ u' → ah_n h' = ah_n h + 3 * (u' - u) → Q none h') : ex_S yX8_begin mX8_begin (d + 5) [.ref 125, .ref b] h 3 103 Q := by
  have h12 := gd.1
  refine X8_begin_e (X8_begin_0 (bc := 0) (bs := 0) ⟨o125 K, fun h2 e2 h3 e3 h4 e4 h5 e5 h6 e6 h7 e7 => ?_⟩)
  have m0 : 125 ∈ [125] := List.mem_cons_self
  have F7 : fr [125] h h7 := by
    rw [e7, e6, e5, e4, e3, e2]
    exact fr_sf (fr_sf (fr_sf (fr_sf (fr_sf (fr_sf (fr_refl _ h) m0) m0) m0) m0) m0) m0
  have f7 : ah_f h7 125 = u1 (u1 (u1 (u1 (u1 (u1 (ah_f h 125) 8 1) 9 0) 10 0) 15 (-1)) 11 0) 12 0 := by
    rw [e7, f_sf_s, e6, f_sf_s, e5, f_sf_s, e4, f_sf_s, e3, f_sf_s, e2, f_sf_s]
  clear e7 e6 e5 e4 e3 e2
  have K7 := sp_fr K F7
  refine ⟨139, r125_5 K7, o139 K7, c_take (d := d + 3) (pt139 K7) (pt_fr P F7) (Or.inr (by omega)) (fun h9 F9 t1 t2 t3 => ⟨rfl, ?_⟩)⟩
  have K9 := sp_fr K7 F9
  have C7 : cD h7 b n l A := cD_sc C F7 (by simp only [List.mem_cons, List.not_mem_nil, or_false]; omega)
  have D9 : cD h9 139 n l A := cD_take C7 (by omega) t1 t2 t3
  have f9 : ah_f h9 125 = ah_f h7 125 := fr_f F9 125 (by decide)
  have n9 : ah_n h9 = ah_n h := F9.1.1.trans F7.1.1
  have su9 : SU h9 W u := SU_fr (SU_fr su F7) F9
  have fb9 : FB W h h9 := FB_trans (FB_fr K F7 SQ125) (fun _ _ => rfl) (FB_fr K7 F9 SQ139)
  refine ⟨o125 K9, c_keep (W := W) (u := u) (c := 0) (D := fun _ => (n, l, A, 0, 0)) (G := NG) (cu := 0) (s := 0) (n := n) (l := l) (A := A) K9 ⟨su9, Nat.zero_le _, by rw [f9, f7, u1_n _ _ (by decide), u1_s]; rfl, fun k hk => absurd hk (Nat.not_lt_zero k)⟩ (fun _ _ => ⟨Nat.le_refl _, Nat.le_refl _⟩) (fun _ _ => by omega) D9 gd (fun k hk => absurd hk (Nat.not_lt_zero k)) (Or.inl ⟨by rw [f9, f7, u1_n _ _ (by decide), u1_n _ _ (by decide), u1_n _ _ (by decide), u1_s], fun _ _ _ _ z => z⟩) (fun z => absurd z (Nat.lt_irrefl _)) (fun h11 W1 u1_ c1 D1 f1 hW1 ke hu kf => ⟨rfl, ?_⟩)⟩
  obtain ⟨kp, sk, fj, f0_, -⟩ := ke
  rcases kp with ⟨q | ⟨k, q, -⟩, -⟩ | ⟨-, -, ec, eD, ⟨-, ff⟩ | ⟨ff, -⟩⟩
  · omega
  · omega
  · exact ff.elim
  subst ec
  subst ff
  have eD' : D1 = fun _ => (n, l, A, 0, 0) := by
    rw [eD]
    funext j
    by_cases q : j = 0
    · rw [q, u1_s]
    · rw [u1_n _ _ q]
  subst eD'
  have K11 := kf.2
  refine ⟨o125 K11, c_enter (d := d + 1) (k := 0) (D := fun _ => (n, l, A, 0, 0)) K11 sk (by omega) gd (fun h13 F13 f13 sb => ⟨rfl, ?_⟩)⟩
  have n11 : ah_n h11 = ah_n h + 3 * (u1_ - u) := by rw [hu.2.2.2, n9]
  have fj7 : ∀ j, j ≠ 11 → j ≠ 15 → ah_f h11 125 j = ah_f h7 125 j := fun j j1 j2 => by rw [fj j j1 j2, f9]
  have fj13 : ∀ j, j ≠ 13 → j ≠ 14 → ah_f h13 125 j = ah_f h11 125 j := fun j j1 j2 => by rw [f13, u1_n _ _ j2, u1_n _ _ j1]
  have fb11 : FB W h h11 := FB_trans fb9 (fun _ _ => rfl) ⟨by omega, fun a ha => kf.1 a (by unfold SQ at ha; omega), K11⟩
  refine kk h13 W1 u1_ (fun a ha => hW1 a (by omega)) (FB_trans fb11 (fun a ha => hW1 a (by omega)) (FB_fr K11 F13 (fun a q => (enL_SQ a q).1))) ?_ ⟨sp_fr K11 F13, SK_fr sk F13 (fun a q => (enL_SQ a q).2) (fj13 11 (by decide) (by decide)), sb, by rw [f13, u1_s], Or.inl ⟨?_, fun _ _ _ _ z => z⟩, ?_, ?_, fun _ => ?_, fun z => absurd z (by decide)⟩ hu.2.2.1 (by rw [F13.1.1]; exact n11)
  · rw [fj13 8 (by decide) (by decide), fj7 8 (by decide) (by decide), f7, u1_n _ _ (by decide), u1_n _ _ (by decide), u1_n _ _ (by decide), u1_n _ _ (by decide), u1_n _ _ (by decide), u1_s]
  · rw [fj13 10 (by decide) (by decide), fj7 10 (by decide) (by decide), f7, u1_n _ _ (by decide), u1_n _ _ (by decide), u1_n _ _ (by decide), u1_s]
  · rw [fj13 9 (by decide) (by decide), fj7 9 (by decide) (by decide), f7, u1_n _ _ (by decide), u1_n _ _ (by decide), u1_n _ _ (by decide), u1_n _ _ (by decide), u1_s]; rfl
  · rw [fj13 12 (by decide) (by decide), fj7 12 (by decide) (by decide), f7, u1_s]
  · rw [fj13 15 (by decide) (by decide), f0_ rfl, f9, f7, u1_n _ _ (by decide), u1_n _ _ (by decide), u1_s]; rfl
theorem c_go {lim : Nat} (hlim : lim ≤ 5000) (P : PVI G c D cu s e f) (x : CI h W u c D cu s e f G st) (hef : e = 1 → f = 0) (hmax : ah_n h + 300 ≤ 10000000) (kk : ∀ h' W' u' c' D' cu' s' g' e' f' j, RU G lim j c D cu s 0 e f c' D' cu' s' g' e' f' → (∀ a, a < ah_n h → W' a = W a) → FQ W h h' → CI h' W' u' c' D' cu' s' e' f' G (st + nI g') → u ≤ u' → ah_n h' = ah_n h + 3 * (u' - u) → Q (some (.int (nI g'))) h') : ex_S yX8_go mX8_go (d + 5) [.ref 125, .int (nI lim)] h 300 10300 Q := by
  have sm := SM_pos P
  exact X8_go_e (X8_go_0 (c_go4 hlim (SM cu s) h W u c D cu s 0 e f 0 300 10300 (Nat.le_refl _) P x (by omega) (by omega) hef (by omega) (by omega) (by omega) kk))
/-- as FM, but a search may have begun -/
def FMb (h h' : AH) : Prop := ah_n h' = ah_n h ∧ (∀ a, a ∉ Mscr → a ≠ 209 → a ≠ 210 → a ≠ 211 → eqc h h' a) ∧ sp h' ∧ (∀ k, k ≠ 9 → ¬ (49 ≤ k ∧ k ≤ 54) → ah_f h' 168 k = ah_f h 168 k) ∧ ∀ s, s < 264 → sl h h' s
theorem FMb_FM (x : FM h h') : FMb h h' := ⟨x.1, x.2.1, x.2.2.1, x.2.2.2.1, x.2.2.2.2.1⟩
theorem FMb_trans (x : FMb h h1) (y : FMb h1 h2) : FMb h h2 := ⟨y.1.trans x.1, fun a a1 a2 a3 a4 => eqc_trans (x.2.1 a a1 a2 a3 a4) (y.2.1 a a1 a2 a3 a4), y.2.2.1, fun k k1 k2 => (y.2.2.2.1 k k1 k2).trans (x.2.2.2.1 k k1 k2), fun s hs => sl_trans (x.2.2.2.2 s hs) (y.2.2.2.2 s hs)⟩
theorem FY_FMb (x : FMb h h') : FY h h' := ⟨x.1, fun a a1 a2 => x.2.1 a a1 (by omega) (by omega) (by omega), x.2.2.1, fun k hk => x.2.2.2.1 k (fun q => by rw [q] at hk; exact absurd hk (by decide)) (fun q => by
  have := (by decide : ∀ k, k ∈ [6, 15, 22, 29, 35, 38, 62] → k < 49 ∨ 54 < k) k hk
  omega), x.2.2.2.2⟩
theorem m_begin {p : Nat} (K : sp h) (hp : p < 24) (M : mD h p n l A) (gd : GDp n l A) (kk : ∀ h', FMb h h' → ah_i h' 208 = ah_i h 208 → ah_f h' 168 49 = 1 → MSI h' 1 (fun _ => (n, l, A, 0, 0)) 0 0 0 0 → Q none h') : ex_S yX12_beginSearch mX12_beginSearch (d + 3) [.ref 168, .int (nI p)] h bc bs Q := by
  have h12 := gd.1
  refine X12_beginSearch_e (X12_beginSearch_0 ⟨o168 K, fun h2 e2 h3 e3 h4 e4 h5 e5 h6 e6 h7 e7 => ?_⟩)
  have m0 : 168 ∈ [168] := List.mem_cons_self
  have F7 : fr [168] h h7 := by
    rw [e7, e6, e5, e4, e3, e2]
    exact fr_sf (fr_sf (fr_sf (fr_sf (fr_sf (fr_sf (fr_refl _ h) m0) m0) m0) m0) m0) m0
  have f7 : ah_f h7 168 = u1 (u1 (u1 (u1 (u1 (u1 (ah_f h 168) 49 1) 50 0) 51 1) 52 0) 53 0) 54 0 := by
    rw [e7, f_sf_s, e6, f_sf_s, e5, f_sf_s, e4, f_sf_s, e3, f_sf_s, e2, f_sf_s]
  clear e7 e6 e5 e4 e3 e2
  have K7 := sp_fr K F7
  refine ⟨209, r168_55 K7, (t209 K7 _).mpr ((ix_nI (i := 0) (by decide)).mpr (by decide)), fun h9 e9 => ?_⟩
  have F9 : fr [168, 209] h h9 := by rw [e9]; exact fr_si (fr_mono F7 (by decide)) (by decide)
  have f9 : ah_f h9 168 = ah_f h7 168 := by rw [e9, f_si]
  clear e9
  have K9 := sp_fr K F9
  have M9 : mD h9 p n l A := mD_sc M F9 (by decide)
  refine m_copyS K9 (s := p) (t := 264) (by omega) (by decide) (by omega) M9.1 (by omega) (fun h11 F11 s11 c11 => ⟨rfl, ?_⟩)
  have K11 := sp_fr K9 F11
  have M11 : mD h11 264 n l A := mD_sC M9 (by omega) c11
  refine ⟨o168 K11, m_link (s := 264) (A := A) K11 (by decide) M11.1 (by omega) M11.2.2.2 gd.2.2 (fun h12 F12 g12 => ⟨rfl, ?_⟩)⟩
  have K12 := sp_fr K11 F12
  have M12 : mD h12 264 n l A := mD_sc M11 F12 (by decide)
  refine ⟨o168 K12, 211, r168_57 K12, m_codeInto (s := 264) (o := 0) (l := l) (L2 := 7000) K12 gd.2.2 (by omega) gd.2.1 (by decide) M12 g12 (sp_x K12 211 (by decide) rfl) (Or.inr (Or.inr rfl)) (by omega) (by decide) (fun h16 P Nk fk F16 cd ob X b _ => ⟨rfl, ?_⟩)⟩
  have K16 := sp_fr K12 F16
  have f16 : ah_f h16 168 = ah_f h7 168 := by rw [fr_f F16 168 (by decide), fr_f F12 168 (by decide), fr_f F11 168 (by decide), f9]
  have sl16 : ∀ t, sl h11 h16 t := fun t => sl_of t (by rw [fr_i F16 170 (by decide), fr_i F12 170 (by decide)]) (by rw [fr_i F16 171 (by decide), fr_i F12 171 (by decide)]) (by rw [fr_i F16 172 (by decide), fr_i F12 172 (by decide)]) (by rw [fr_i F16 173 (by decide), fr_i F12 173 (by decide)])
  have r : ∀ a, a ∉ [168, 209] → a ∉ [170, 171, 172, 173] → a ∉ [176, 179] → a ∉ ciL 211 → eqc h h16 a := fun a a1 a2 a3 a4 => eqc_trans (eqc_fr F9 a1) (eqc_trans (eqc_fr F11 a2) (eqc_trans (eqc_fr F12 a3) (eqc_fr F16 a4)))
  have fm : FMb h h16 := by
    refine ⟨by rw [F16.1.1, F12.1.1, F11.1.1, F9.1.1], fun a a1 a2 a3 a4 => r a (fun q => ?_) (fun q => a1 ((by decide : ∀ a, a ∈ [170, 171, 172, 173] → a ∈ Mscr) a q)) (fun q => a1 ((by decide : ∀ a, a ∈ [176, 179] → a ∈ Mscr) a q)) (fun q => ?_), K16, fun k k1 k2 => ?_, fun t ht => ?_⟩
    · simp only [List.mem_cons, List.not_mem_nil, or_false] at q
      rcases q with q | q
      · exact a1 (by rw [q]; decide)
      · exact a2 q
    · rcases List.mem_append.mp (show a ∈ [177, 199, 200, 201, 202, 203, 204, 205, 206] ++ [211] from q) with q | q
      · exact a1 ((by decide : ∀ a, a ∈ [177, 199, 200, 201, 202, 203, 204, 205, 206] → a ∈ Mscr) a q)
      · exact a4 (by simpa using q)
    · rw [f16, f7, u1_n _ _ (by omega), u1_n _ _ (by omega), u1_n _ _ (by omega), u1_n _ _ (by omega), u1_n _ _ (by omega), u1_n _ _ (by omega)]
    · exact sl_trans (sl_of t (fr_i F9 170 (by decide)) (fr_i F9 171 (by decide)) (fr_i F9 172 (by decide)) (fr_i F9 173 (by decide))) (sl_trans (s11 t (by omega)) (sl16 t))
  refine kk h16 fm (r 208 (by decide) (by decide) (by decide) (by decide)).2.2.1 ?_ ⟨K16, ?_, ?_, fun _ => ⟨?_, ?_⟩, fun z => absurd z (by decide), ?_, fun k hk => ?_⟩
  · rw [f16, f7, u1_n _ _ (by decide), u1_n _ _ (by decide), u1_n _ _ (by decide), u1_n _ _ (by decide), u1_n _ _ (by decide), u1_s]
  · rw [f16, f7, u1_n _ _ (by decide), u1_n _ _ (by decide), u1_n _ _ (by decide), u1_n _ _ (by decide), u1_s]; rfl
  · rw [f16, f7, u1_n _ _ (by decide), u1_n _ _ (by decide), u1_n _ _ (by decide), u1_s]; rfl
  · rw [f16, f7, u1_n _ _ (by decide), u1_n _ _ (by decide), u1_s]; rfl
  · rw [f16, f7, u1_n _ _ (by decide), u1_s]; rfl
  · rw [f16, f7, u1_s]
  · have : k = 0 := by omega
    subst this
    exact ⟨mD_sl M11 (by show n ≤ 40; omega) (sl16 264), ⟨P, Nk, fk, cd, ob, X, b⟩, fun z => absurd z (Nat.lt_irrefl _)⟩
theorem m_goes {lim : Nat} {v : Int32} {c' cu' s' g' e' f' j : Nat} {D' : SD} (hlim : lim ≤ 5000) (R : RU G lim j c D cu s 0 e 0 c' D' cu' s' g' e' f') (P : PVI G c D cu s e 0) (x : MSI h c D cu s e st) (mg : MG h G v) (kk : ∀ h', FM h h' → ah_i h' 208 = ah_i h 208 → MSI h' c' D' cu' s' e' (st + nI g') → Q (some (.int (nI g'))) h') : ex_S yX12_goes mX12_goes (d + 4) [.ref 168, .int (nI lim), .int v] h bc bs Q := by
  have x' : MSI h c D cu s e (st + nI 0) := by
    rw [show st + nI 0 = st from Int32.add_zero st]
    exact x
  exact X12_goes_e (X12_goes_0 (m_goes5 hlim j h c D cu s 0 e 0 R P x' mg (by omega) kk))
theorem PVI_0 (gd : GDp n l A) (ng : ¬ G n l A) : PVI G 1 (fun _ => (n, l, A, 0, 0)) 0 0 0 0 := ⟨⟨by omega, by omega, by omega, Nat.zero_le _, fun _ _ => gd, fun k k0 k1 => by omega⟩, ⟨by omega, by omega⟩, fun z => absurd z (by decide), fun _ _ _ => ng, fun z => absurd z (by decide)⟩
end SBEGIN
