/-! The class's search: enter, enterNext, go. -/
section SGO2
variable {h h1 h2 h' : AH} {d bc bs : Nat} {Q : Option Value → AH → Prop} {W W' : Nat → Nat} {u c cu s n l a : Nat} {A : Nat → Nat} {D : SD} {G : Nat → Nat → (Nat → Nat) → Prop}
def enL : List Nat := [125, 136, 137, 138, 142, 143, 152]
theorem enL_SQ : ∀ a, a ∈ enL → SQ a ∧ a < 216 := by
  intro a ha
  unfold enL at ha
  unfold SQ
  simp only [List.mem_cons, List.not_mem_nil, or_false] at ha
  omega
theorem c_enter {k : Nat} (K : sp h) (su : SK h W u c D) (hk : k < c) (gd : GDp (D k).1 (D k).2.1 (D k).2.2.1) (kk : ∀ h', fr enL h h' → ah_f h' 125 = u1 (u1 (ah_f h 125) 13 (nI k)) 14 (nI 0) → SB h' D k → Q none h') : ex_S yX8_enter mX8_enter (d + 3) [.ref 125, .int (nI k)] h bc bs Q := by
  have u100 := su.1.1
  have cu_ := su.2.1
  have h12 := gd.1
  refine X8_enter_e (X8_enter_0 ⟨o125 K, fun h2 e2 h3 e3 => ?_⟩)
  have F3 : fr enL h h3 := by rw [e3, e2]; exact fr_sf (fr_sf (fr_refl _ h) (by decide)) (by decide)
  have f3 : ah_f h3 125 = u1 (u1 (ah_f h 125) 13 (nI k)) 14 (nI 0) := by rw [e3, f_sf_s, e2, f_sf_s]; rfl
  clear e3 e2
  have K3 := sp_fr K F3
  obtain ⟨a, y⟩ := su.2.2.2 k hk
  have y0 := y.2.1.1
  have nl : ∀ j, j < 3 → a + j ∉ enL := fun j _ q => by have := (enL_SQ _ q).2; omega
  have y3 := SKk_fr y F3 nl
  refine ⟨126, r125_0 K3, (s126 K3 _).mpr ((ix_nI (by omega)).mpr (by omega)), a, by rw [nI_clamp (by omega)]; exact y3.1, 136, r125_4 K3, y3.2.1.2.1.2.1, ?_⟩
  refine c_pour (A := (D k).2.2.1) y3.2.1.2.1 (pt136 K3) (Or.inr (by omega)) h12 y3.2.2.1.1 y3.2.2.1.2.1 y3.2.2.1.2.2.2.1 (fun h8 F8 D8 => ⟨rfl, ?_⟩)
  have K8 := sp_fr K3 F8
  refine ⟨o125 K8, 142, r125_6 K8, 136, r125_4 K8, o142 K8, ?_⟩
  refine c_pairUp (d := d + 1) (lk142 K8) (pt136 K8) (Or.inl (by decide)) D8.1 D8.2.1 (by omega) D8.2.2.2 gd.2.2 (fun h13 F13 g1 g2 g3 g4 => ⟨rfl, ?_⟩)
  have FF : fr enL h h13 := fr_trans F3 (fr_trans (fr_mono F8 (by decide)) (fr_mono F13 (by decide)))
  have f13 : ah_f h13 125 = ah_f h3 125 := by rw [fr_f F13 125 (by decide), fr_f F8 125 (by decide)]
  refine kk h13 FF (by rw [f13]; exact f3) ⟨by rw [f13, f3, u1_n _ _ (by decide), u1_s], ?_, g1, g4⟩
  obtain ⟨d1, d2, d3, d4⟩ := D8
  exact ⟨by rw [fr_f F13 136 (by decide)]; exact d1, by rw [fr_f F13 136 (by decide)]; exact d2, fun c hc => by rw [fr_i F13 137 (by decide)]; exact d3 c hc, fun e he => by rw [fr_i F13 138 (by decide)]; exact d4 e he⟩
theorem CI_enter {k e f s0 cu0 : Nat} {st : Int32} {hx hy : AH} (x : CI hx W u c D cu0 s0 e f G st) (e' : Nat) (F : fr enL hx hy) (f9 : ah_f hy 125 = u1 (u1 (u1 (ah_f hx 125) 9 (nI e')) 13 (nI k)) 14 (nI 0)) (sb : SB hy D k) : CI hy W u c D k 0 e' f G st := by
  obtain ⟨x1, x2, x3, x4, x5, x6, x7, x8, x9⟩ := x
  have ec : ∀ b, 127 ≤ b → b ≤ 129 → eqc hx hy b := fun b b1 b2 => eqc_fr F (fun q => by
    unfold enL at q
    simp only [List.mem_cons, List.not_mem_nil, or_false] at q
    omega)
  have fj : ∀ j, j ≠ 9 → j ≠ 13 → j ≠ 14 → ah_f hy 125 j = ah_f hx 125 j := fun j j1 j2 j3 => by rw [f9, u1_n _ _ j3, u1_n _ _ j2, u1_n _ _ j1]
  refine ⟨sp_fr x1 F, SK_fr x2 F (fun a q => (enL_SQ a q).2) (fj 11 (by decide) (by decide) (by decide)), sb, by rw [f9, u1_s], SA_eq x5 (fj 10 (by decide) (by decide) (by decide)) (ec 127 (by decide) (by decide)) (ec 128 (by decide) (by decide)) (ec 129 (by decide) (by decide)), by rw [f9, u1_n _ _ (by decide), u1_n _ _ (by decide), u1_s], (fj 12 (by decide) (by decide) (by decide)).trans x7, fun z => (fj 15 (by decide) (by decide) (by decide)).trans (x8 z), fun z => (fj 15 (by decide) (by decide) (by decide)).trans (x9 z)⟩
/-- a field of the search alone -/
theorem CI_f {e f s0 : Nat} {st : Int32} {hx hy : AH} {j : Nat} {v : Int32} (x : CI hx W u c D cu s0 e f G st) (ey : hy = ah_sf hx 125 j v) : fr [125] hx hy ∧ ah_f hy 125 = u1 (ah_f hx 125) j v ∧ sp hy ∧ (j ≠ 11 → SK hy W u c D) ∧ (j ≠ 13 → SB hy D cu) ∧ (j ≠ 10 → SA hy G) := by
  obtain ⟨x1, x2, x3, x4, x5, -⟩ := x
  have F : fr [125] hx hy := by rw [ey]; exact fr_sf (fr_refl _ hx) (by decide)
  have f1 : ah_f hy 125 = u1 (ah_f hx 125) j v := by rw [ey, f_sf_s]
  refine ⟨F, f1, sp_fr x1 F, fun z => SK_fr x2 F (fun a q => by
    simp only [List.mem_cons, List.not_mem_nil, or_false] at q
    omega) (by rw [f1, u1_n _ _ (Ne.symm z)]), fun z => ?_, fun z => SA_eq x5 (by rw [f1, u1_n _ _ (Ne.symm z)]) (eqc_fr F (by decide)) (eqc_fr F (by decide)) (eqc_fr F (by decide))⟩
  obtain ⟨y1, ⟨d1, d2, d3, d4⟩, y3, y4⟩ := x3
  exact ⟨by rw [f1, u1_n _ _ (Ne.symm z)]; exact y1, ⟨by rw [fr_f F 136 (by decide)]; exact d1, by rw [fr_f F 136 (by decide)]; exact d2, fun c hc => by rw [fr_i F 137 (by decide)]; exact d3 c hc, fun e he => by rw [fr_i F 138 (by decide)]; exact d4 e he⟩, by rw [fr_f F 142 (by decide)]; exact y3, fun e he => by rw [fr_i F 143 (by decide)]; exact y4 e he⟩
theorem c_enterNext {e f : Nat} {st : Int32} (x : CI h W u c D cu s e f G st) (P : PV c D cu s) (k1 : cu + 1 < c → ∀ h', FQ W h h' → ah_n h' = ah_n h → CI h' W u c D (cu + 1) 0 0 f G st → Q (some (.int 1)) h') (k0 : ¬ cu + 1 < c → ∀ h', FQ W h h' → ah_n h' = ah_n h → CI h' W u c D cu s 1 f G st → Q (some (.int 0)) h') : ex_S yX8_enterNext mX8_enterNext (d + 4) [.ref 125] h bc bs Q := by
  have x0 := x
  obtain ⟨x1, x2, x3, x4, x5, x6, x7, x8, x9⟩ := x
  have c100 := P.2.1
  have hcu := P.2.2.1
  have e1 : ah_f h 125 13 + 1 = nI (cu + 1) := by rw [x3.1]; exact nI_add cu 1
  have tail : ∀ (v : Nat) (hx : AH), sp hx → ah_f hx 125 9 = nI v → v ≤ 1 → ((v = 1 → Q (some (.int 0)) hx) ∧ (v = 0 → Q (some (.int 1)) hx)) → ex_G mX8_enterNext (d + 4) 39 [.ref 125] [] hx bc bs Q := by
    intro v hx Kx fv v1 ⟨q1, q0⟩
    refine X8_enterNext_39 ⟨o125 Kx, fun w => q1 ?_, fun w => q0 ?_⟩
    · rw [fv] at w
      by_cases z : v = 0
      · rw [z] at w
        exact absurd rfl w
      · omega
    · rw [fv] at w
      exact (nI_eq (b := 0) (by omega) (by omega)).mp w
  refine X8_enterNext_e (X8_enterNext_0 ⟨o125 x1, ?_⟩)
  rw [e1, x2.2.2.1, nI_ltI (by omega) (by omega)]
  refine ⟨fun z => X8_enterNext_19 ⟨o125 x1, Or.inl rfl, fun h2 e2 => ?_⟩, fun z => X8_enterNext_19 ⟨o125 x1, Or.inr rfl, fun h2 e2 => ?_⟩⟩
  · obtain ⟨F2, f2, K2, y1, y2, y3⟩ := CI_f x0 e2
    have g9 : ah_f h2 125 9 = nI 0 := by rw [f2, u1_s]; rfl
    refine ⟨o125 K2, fun w => absurd g9 w, fun _ => ?_⟩
    have e1' : ah_f h2 125 13 + 1 = nI (cu + 1) := by rw [f2, u1_n _ _ (by decide)]; exact e1
    rw [e1']
    refine c_enter (d := d) (D := D) (c := c) (W := W) (u := u) K2 (y1 (by decide)) z (P.2.2.2.2.1 _ z) (fun h6 F6 f6 sb => ⟨rfl, ?_⟩)
    have FF : fr enL h h6 := fr_trans (fr_mono F2 (by decide)) F6
    have f6' : ah_f h6 125 = u1 (u1 (u1 (ah_f h 125) 9 (nI 0)) 13 (nI (cu + 1))) 14 (nI 0) := by rw [f6, f2]; rfl
    refine tail 0 h6 (sp_fr K2 F6) (by rw [f6', u1_n _ _ (by decide), u1_n _ _ (by decide), u1_s]) (by decide) ⟨fun q => absurd q (by decide), fun _ => k1 z h6 ?_ FF.1.1 (CI_enter x0 0 FF f6' sb)⟩
    exact FQ_fr x1 FF (fun a q => (enL_SQ a q).1) (by rw [f6', u1_n _ _ (by decide), u1_n _ _ (by decide), u1_n _ _ (by decide)]) (by rw [f6', u1_n _ _ (by decide), u1_n _ _ (by decide), u1_n _ _ (by decide)])
  · obtain ⟨F2, f2, K2, y1, y2, y3⟩ := CI_f x0 e2
    have g9 : ah_f h2 125 9 = nI 1 := by rw [f2, u1_s]; rfl
    refine ⟨o125 K2, fun _ => ?_, fun w => absurd (g9.symm.trans w) (by decide)⟩
    have fj : ∀ j, j ≠ 9 → ah_f h2 125 j = ah_f h 125 j := fun j j1 => by rw [f2, u1_n _ _ j1]
    refine tail 1 h2 K2 g9 (by decide) ⟨fun _ => k0 z h2 (FQ_fr x1 F2 (fun a q => by
      simp only [List.mem_cons, List.not_mem_nil, or_false] at q
      exact Or.inl q) (fj 8 (by decide)) (fj 10 (by decide))) F2.1.1 ⟨K2, y1 (by decide), y2 (by decide), (fj 14 (by decide)).trans x4, y3 (by decide), g9, (fj 12 (by decide)).trans x7, fun q => (fj 15 (by decide)).trans (x8 q), fun q => (fj 15 (by decide)).trans (x9 q)⟩, fun q => absurd q (by decide)⟩
end SGO2
