/-! The class's search: go. -/
section SGO3
variable {h h1 h2 h' : AH} {d bc bs : Nat} {Q : Option Value → AH → Prop} {W W' : Nat → Nat} {u c cu s n l a : Nat} {A : Nat → Nat} {D : SD} {G : Nat → Nat → (Nat → Nat) → Prop}
theorem CI_DC {e f : Nat} {st : Int32} (x : CI h W u c D cu s e f G st) (P : PV c D cu s) : DC h 136 142 (D cu).1 (D cu).2.1 (D cu).2.2.1 (mt (D cu).1 (D cu).2.2.1) := by
  have g := P.2.2.2.2.1 cu P.2.2.1
  have h12 := g.1
  obtain ⟨x1, x2, ⟨b1, b2, b3, b4⟩, -⟩ := x
  exact ⟨pt136 x1, lk142 x1, Or.inl (by decide), b2, b3, b4, by omega, g.2.1, g.2.2⟩
/-- frames that leave the search's standing alone -/
theorem CI_fr {e f : Nat} {st : Int32} {L : List Nat} (x : CI h W u c D cu s e f G st) (F : fr L h h') (nl : ∀ a, a ∈ L → 130 ≤ a ∧ a ≤ 133 ∨ 139 ≤ a ∧ a ≤ 141 ∨ 153 ≤ a ∧ a ≤ 163) : CI h' W u c D cu s e f G st := by
  obtain ⟨x1, x2, ⟨b1, ⟨d1, d2, d3, d4⟩, b3, b4⟩, x4, x5, x6, x7, x8, x9⟩ := x
  have ec : ∀ a, ¬ (130 ≤ a ∧ a ≤ 133 ∨ 139 ≤ a ∧ a ≤ 141 ∨ 153 ≤ a ∧ a ≤ 163) → eqc h h' a := fun a ha => eqc_fr F (fun q => ha (nl a q))
  have f125 := (ec 125 (by decide)).2.1
  have f136 := (ec 136 (by decide)).2.1
  refine ⟨sp_fr x1 F, SK_fr x2 F (fun a q => by have := nl a q; omega) (by rw [f125]), ⟨by rw [f125]; exact b1, ⟨by rw [f136]; exact d1, by rw [f136]; exact d2, fun c hc => by rw [(ec 137 (by decide)).2.2.1]; exact d3 c hc, fun e he => by rw [(ec 138 (by decide)).2.2.1]; exact d4 e he⟩, by rw [(ec 142 (by decide)).2.1]; exact b3, fun e he => by rw [(ec 143 (by decide)).2.2.1]; exact b4 e he⟩, by rw [f125]; exact x4, SA_eq x5 (by rw [f125]) (ec 127 (by decide)) (ec 128 (by decide)) (ec 129 (by decide)), by rw [f125]; exact x6, by rw [f125]; exact x7, by rw [f125]; exact x8, by rw [f125]; exact x9⟩
theorem CI_s {e f : Nat} {st : Int32} (x : CI h W u c D cu s e f G st) (e2 : h2 = ah_sf h 125 14 (nI (s + 1))) : CI h2 W u c D cu (s + 1) e f G st ∧ fr [125] h h2 ∧ ah_f h2 125 = u1 (ah_f h 125) 14 (nI (s + 1)) := by
  obtain ⟨F2, f2, K2, y1, y2, y3⟩ := CI_f x e2
  obtain ⟨x1, x2, x3, x4, x5, x6, x7, x8, x9⟩ := x
  have fj : ∀ j, j ≠ 14 → ah_f h2 125 j = ah_f h 125 j := fun j j1 => by rw [f2, u1_n _ _ j1]
  exact ⟨⟨K2, y1 (by decide), y2 (by decide), by rw [f2, u1_s], y3 (by decide), (fj 9 (by decide)).trans x6, (fj 12 (by decide)).trans x7, fun q => (fj 15 (by decide)).trans (x8 q), fun q => (fj 15 (by decide)).trans (x9 q)⟩, F2, f2⟩
/-- keep's end carries the rest -/
theorem CI_keep {u' c' f' n' l' : Nat} {A' : Nat → Nat} {D' : SD} {st : Int32} {g : Nat} (x : CI h W u c D cu g 0 0 G st) (hcu : cu < c) (hW : ∀ a, a < ah_n h → W' a = W a) (ke : KE h h' W' u' c D G cu s n' l' A' c' D' f') (kf : KF W h h') : CI h' W' u' c' D' cu g 0 f' G st := by
  obtain ⟨x1, x2, ⟨b1, ⟨d1, d2, d3, d4⟩, b3, b4⟩, x4, x5, x6, x7, x8, x9⟩ := x
  obtain ⟨k1, k2, k3, k4, k5⟩ := ke
  have eD : D' cu = D cu := by
    rcases k1 with ⟨-, -, e, -⟩ | ⟨-, -, -, e, -⟩
    · rw [e]
    · rw [e, u1_n _ _ (by omega)]
  have lo : ∀ a, a < 216 → ¬ (a = 125 ∨ a = 126 ∨ (130 ≤ a ∧ a ≤ 133) ∨ (153 ≤ a ∧ a ≤ 163)) → eqc h h' a := fun a a1 a2 => kf.1 a (Or.inl ⟨a1, a2⟩)
  have f136 := (lo 136 (by decide) (by decide)).2.1
  refine ⟨kf.2, k2, ?_, (k3 14 (by decide) (by decide)).trans x4, SA_eq x5 (k3 10 (by decide) (by decide)) (lo 127 (by decide) (by decide)) (lo 128 (by decide) (by decide)) (lo 129 (by decide) (by decide)), (k3 9 (by decide) (by decide)).trans x6, (k3 12 (by decide) (by decide)).trans x7, fun z => (k4 z).trans (x8 rfl), k5⟩
  unfold SB
  rw [eD]
  exact ⟨(k3 13 (by decide) (by decide)).trans b1, ⟨by rw [f136]; exact d1, by rw [f136]; exact d2, fun c hc => by rw [(lo 137 (by decide) (by decide)).2.2.1]; exact d3 c hc, fun e he => by rw [(lo 138 (by decide) (by decide)).2.2.1]; exact d4 e he⟩, by rw [(lo 142 (by decide) (by decide)).2.1]; exact b3, fun e he => by rw [(lo 143 (by decide) (by decide)).2.2.1]; exact b4 e he⟩
theorem c_go4 {lim : Nat} {st : Int32} (hlim : lim ≤ 5000) : ∀ (M : Nat) (h : AH) (W : Nat → Nat) (u c : Nat) (D : SD) (cu s g e f t bc bs : Nat), SM cu s ≤ M → PVI G c D cu s e f → CI h W u c D cu s e f G st → t + SM cu s ≤ 14500 → g ≤ 5000 → (e = 1 → f = 0) → 3 * (100 - u) ≤ bc → 103 * (100 - u) ≤ bs → ah_n h + 3 * (100 - u) ≤ 10000000 → (∀ h' W' u' c' D' cu' s' g' e' f' j, RU G lim j c D cu s g e f c' D' cu' s' g' e' f' → (∀ a, a < ah_n h → W' a = W a) → FQ W h h' → CI h' W' u' c' D' cu' s' e' f' G (st + nI g') → u ≤ u' → ah_n h' = ah_n h + 3 * (u' - u) → Q (some (.int (nI g'))) h') → ex_G mX8_go (d + 5) 4 [.ref 125, .int (nI lim), .int (nI g), .int (nI t), .retAddr 0] [] h bc bs Q := by
  intro M
  induction M with
  | zero =>
    intro h W u c D cu s g e f t bc bs hM P
    have := (SM_pos P).1
    omega
  | succ M ih =>
    intro h W u c D cu s g e f t bc bs hM P x ht hg hef hbc hbs hmax kk
    have P0 := P.1
    have x0 := x
    obtain ⟨x1, x2, x3, x4, x5, x6, x7, x8, x9⟩ := x
    have sp_ := SM_pos P
    have gk := P0.2.2.2.2.1 cu P0.2.2.1
    have h12 := gk.1
    have hs := P0.2.2.2.1
    have c100 := P0.2.1
    have cpos := P0.1
    have hcu := P0.2.2.1
    have e01 := P.2.1
    have fin : ∀ {h0 : AH} {j e' : Nat}, RU G lim j c D cu s g e f c D cu s g e' f → FQ W h h0 → ah_n h0 = ah_n h → CI h0 W u c D cu s e' f G st → ∀ h3, h3 = ah_sf h0 125 12 (ah_f h0 125 12 + nI g) → Q (some (.int (nI g))) h3 := by
      intro h0 j e' ru fq n0 y h3 e3
      obtain ⟨F3, f3, K3, y1, y2, y3⟩ := CI_f y e3
      obtain ⟨z1, z2, z3, z4, z5, z6, z7, z8, z9⟩ := y
      have fj : ∀ j, j ≠ 12 → ah_f h3 125 j = ah_f h0 125 j := fun j j1 => by rw [f3, u1_n _ _ j1]
      refine kk h3 W u c D cu s g e' f j ru (fun _ _ => rfl) (FQ_trans fq (fun _ _ => rfl) (FQ_fr (W := W) z1 F3 (fun a q => by
        simp only [List.mem_cons, List.not_mem_nil, or_false] at q
        exact Or.inl q) (fj 8 (by decide)) (fj 10 (by decide)))) ⟨K3, y1 (by decide), y2 (by decide), (fj 14 (by decide)).trans z4, y3 (by decide), (fj 9 (by decide)).trans z6, by rw [f3, u1_s, z7], fun q => (fj 15 (by decide)).trans (z8 q), fun q => (fj 15 (by decide)).trans (z9 q)⟩ (Nat.le_refl _) (by rw [F3.1.1, n0]; omega)
    have same : (e = 1 ∨ f = 1 ∨ lim ≤ g) → RU G lim 0 c D cu s g e f c D cu s g e f := fun z => ⟨⟨rfl, rfl, rfl, rfl, rfl, rfl, rfl⟩, z⟩
    refine X8_goL_4 ⟨fun w => absurd ((nI_ltI (a := 14500) (by omega) (by omega)).mp w) (by omega), fun _ => ⟨fun w => ⟨o125 x1, fin (same (Or.inr (Or.inr ((nI_leI (by omega) (by omega)).mp w)))) (FQ_refl x1) rfl x0⟩, fun w => ⟨o125 x1, ?_⟩⟩⟩
    have hgl : g < lim := by
      have : ¬ lim ≤ g := fun q => w ((nI_leI (by omega) (by omega)).mpr q)
      omega
    by_cases f1 : f = 1
    · have v15 := x9 f1
      refine ⟨fun _ => fin (same (Or.inr (Or.inl f1))) (FQ_refl x1) rfl x0, fun w => absurd ?_ w⟩
      rw [v15]
      exact (nI_leI (a := 0) (by omega) (by omega)).mpr (Nat.zero_le _)
    · have f0 : f = 0 := by omega
      subst f0
      have v15 := x8 rfl
      have b2 : ah_f h 136 2 = nI (D cu).1 := x3.2.1.1
      have e12 : (12 : Int32) * nI (D cu).1 = nI (12 * (D cu).1) := pk_mul 12 (D cu).1
      refine ⟨fun w => absurd w (by rw [v15]; decide), fun _ => ⟨136, r125_4 x1, o136 x1, ?_⟩⟩
      rw [x4, b2, e12, nI_ltI (by omega) (by omega)]
      refine ⟨fun lt x13 e13 h14 e14 => ?_, fun ge => ?_⟩
      · -- a way
        have e0 : e = 0 := by
          by_cases z : e = 1
          · have := (P.2.2.1 z).2
            omega
          · omega
        subst e0
        rw [show nI s + 1 = nI (s + 1) from nI_add s 1] at e14
        obtain ⟨y14, F14, f14⟩ := CI_s x0 e14
        have fq14 : FQ W h h14 := FQ_fr x1 F14 (fun a q => by
          simp only [List.mem_cons, List.not_mem_nil, or_false] at q
          exact Or.inl q) (by rw [f14, u1_n _ _ (by decide)]) (by rw [f14, u1_n _ _ (by decide)])
        have n14 : ah_n h14 = ah_n h := F14.1.1
        clear e14
        subst e13
        have K14 := y14.1
        have P14 : PV c D cu (s + 1) := ⟨P0.1, P0.2.1, P0.2.2.1, by omega, P0.2.2.2.2⟩
        have X14 := CI_DC y14 P14
        obtain ⟨sf, n', l', A', M_, ⟨o1, o2⟩, o3⟩ := stp_ex (l := (D cu).2.1) gk.2.2 (by omega) gk.2.1 (nI s)
        -- no step: the loop goes on
        have skip : sf ≠ 0 → ∀ h0, FQ W h h0 → ah_n h0 = ah_n h → CI h0 W u c D cu (s + 1) 0 0 G st → ∀ x30, x30 = nI t + 1 → ex_G mX8_go (d + 5) 4 [.ref 125, .int (nI lim), .int (nI g), .int x30, .retAddr 0] [] h0 bc bs Q := by
          intro ne h0 fq n0 y x30 e30
          have ex : x30 = nI (t + 1) := by rw [e30]; exact nI_add t 1
          rw [ex]
          have T : TN G c D cu s g c D cu (s + 1) g 0 0 := Or.inr (Or.inr ⟨lt, rfl, rfl, rfl, sf, n', l', A', M_, Or.inl ⟨ne, rfl, rfl, rfl, rfl⟩⟩)
          have sm := SM_lt P T
          refine ih h0 W u c D cu (s + 1) g 0 0 (t + 1) bc bs (by omega) (TN_PVI P T) y (by omega) hg (fun z => absurd z (by decide)) hbc hbs (by omega) (fun h' W' u' c' D' cu' s' g' e' f' j ru hw fq' ci hu hn => kk h' W' u' c' D' cu' s' g' e' f' (j + 1) ⟨rfl, rfl, hgl, _, _, _, _, _, _, _, T, ru⟩ (fun a ha => hw a (by omega)) (FQ_trans fq (fun _ _ => rfl) fq') ci hu (by omega))
        refine ⟨142, r125_6 K14, c_seems (d := d + 1) X14 ⟨_, rfl, fun _ => ?_, fun z => absurd z (by decide)⟩ (fun no => ⟨_, rfl, fun z => absurd rfl z, fun _ => skip (no sf n' l' A' M_) h14 fq14 n14 y14⟩)⟩
        refine ⟨o125 K14, 139, r125_5 K14, 136, r125_4 K14, o139 K14, c_take (d := d + 3) (pt139 K14) (pt136 K14) (Or.inl (by decide)) (fun h22 F22 t1 t2 t3 => ⟨rfl, ?_⟩)⟩
        have y22 := CI_fr y14 F22 (fun a q => by
          simp only [List.mem_cons, List.not_mem_nil, or_false] at q
          omega)
        have K22 := y22.1
        have b14 := y14.2.2.1
        have X22 := CI_DC y22 P14
        have D22 : cD h22 139 (D cu).1 (D cu).2.1 (D cu).2.2.1 := by
          refine ⟨?_, ?_, fun c hc => ?_, fun e he => ?_⟩
          · rw [t1, u1_n _ _ (by decide), u1_s]; exact b14.2.1.1
          · rw [t1, u1_s]; exact b14.2.1.2.1
          · have := b14.2.1.2.2.1 c hc
            rw [show ah_i h22 (139 + 1) = _ from t2, pk_cpy_in (Nat.zero_le _) (by omega), Nat.zero_add, Nat.sub_zero]
            exact this
          · have := b14.2.1.2.2.2 e he
            rw [show ah_i h22 (139 + 2) = _ from t3, pk_cpy_in (Nat.zero_le _) (by omega), Nat.zero_add, Nat.sub_zero]
            exact this
        have X : DC h22 139 142 (D cu).1 (D cu).2.1 (D cu).2.2.1 (mt (D cu).1 (D cu).2.2.1) := ⟨pt139 K22, lk142 K22, Or.inl (by decide), D22, X22.2.2.2.2⟩
        refine ⟨o125 K22, 139, r125_5 K22, 142, r125_6 K22, c_takeStep X M_ (fun h27 F27 D27 => ⟨_, rfl, ?_⟩)⟩
        have F1427 : fr [139, 140, 141] h14 h27 := fr_trans F22 F27
        have nl39 : ∀ a, a ∈ [139, 140, 141] → 130 ≤ a ∧ a ≤ 133 ∨ 139 ≤ a ∧ a ≤ 141 ∨ 153 ≤ a ∧ a ≤ 163 := fun a q => by
          simp only [List.mem_cons, List.not_mem_nil, or_false] at q
          omega
        have y27 := CI_fr y14 F1427 nl39
        have f27 : ah_f h27 125 = ah_f h14 125 := fr_f F1427 125 (by decide)
        have fq27 : FQ W h h27 := FQ_trans fq14 (fun _ _ => rfl) (FQ_fr (W := W) K14 F1427 (fun a q => by
          simp only [List.mem_cons, List.not_mem_nil, or_false] at q
          unfold SQ
          omega) (by rw [f27]) (by rw [f27]))
        have n27 : ah_n h27 = ah_n h := F1427.1.1.trans n14
        by_cases z0 : sf = 0
        · rw [if_pos z0]
          subst z0
          refine ⟨fun q => absurd q (by decide), fun _ x31 e31 => ⟨o125 y27.1, ?_⟩⟩
          have ex : x31 = nI (g + 1) := by rw [e31]; exact nI_add g 1
          rw [ex]
          have gd' := stp_GD gk M_
          have D27' := D27 rfl
          have u100 := x2.1.1
          have cle := x2.2.1
          have p13 : ah_f h27 125 13 = nI cu := y27.2.2.1.1
          rw [p13]
          have body : ∀ mc ms bc' bs', (u = c → c < 100 → 3 ≤ mc ∧ 103 ≤ ms) → (∀ u', (u = c → c < 100 → u' = u + 1) → (¬ (u = c ∧ c < 100) → u' = u) → 3 * (100 - u') ≤ bc' ∧ 103 * (100 - u') ≤ bs') → ex_S yX8_keep mX8_keep (d + 4) [.ref 125, .int (nI cu), .int (nI s)] h27 mc ms (fun r h33 => r = none ∧ ∀ x34, x34 = nI t + 1 → ex_G mX8_go (d + 5) 4 [.ref 125, .int (nI lim), .int (nI (g + 1)), .int x34, .retAddr 0] [] h33 bc' bs' Q) := by
            intro mc ms bc' bs' hm hb
            refine c_keep (G := G) (cu := cu) (s := s) y27.1 y27.2.1 hm (fun q1 q2 => by omega) D27' gd' P0.2.2.2.2.1 y27.2.2.2.2.1 (fun _ => ⟨rfl, rfl⟩) (fun h33 W3 u3 c3 D3 f3 hW3 ke hu3 kf => ⟨rfl, fun x34 e34 => ?_⟩)
            have ex4 : x34 = nI (t + 1) := by rw [e34]; exact nI_add t 1
            rw [ex4]
            have T : TN G c D cu s g c3 D3 cu (s + 1) (g + 1) 0 f3 := Or.inr (Or.inr ⟨lt, rfl, rfl, rfl, 0, n', l', A', M_, Or.inr ⟨rfl, rfl, ke.1⟩⟩)
            have sm := SM_lt P T
            obtain ⟨r1, r2⟩ := hb u3 hu3.1 hu3.2.1
            have y33 := CI_keep y27 hcu hW3 ke kf
            have fq33 : FQ W h h33 := FQ_trans fq27 (fun _ _ => rfl) (FQ_KF (by omega) kf ke.2.2.1)
            refine ih h33 W3 u3 c3 D3 cu (s + 1) (g + 1) 0 f3 (t + 1) bc' bs' (by omega) (TN_PVI P T) y33 (by omega) (by omega) (fun z => absurd z (by decide)) r1 r2 (by have := y33.2.1.1.1; omega) (fun h' W' u' c' D' cu' s' g' e' f' j ru hw fq' ci hu hn => kk h' W' u' c' D' cu' s' g' e' f' (j + 1) ⟨rfl, rfl, hgl, _, _, _, _, _, _, _, T, ru⟩ (fun a ha => (hw a (by omega)).trans (hW3 a (by omega))) (FQ_trans fq33 (fun a ha => hW3 a (by omega)) fq') ci (by omega) (by omega))
          by_cases q : u = c ∧ c < 100
          · exact ⟨3, 103, bc - 3, bs - 103, by omega, by omega, body _ _ _ _ (fun _ _ => ⟨Nat.le_refl _, Nat.le_refl _⟩) (fun u' a1 _ => by
              have := a1 q.1 q.2
              constructor <;> omega)⟩
          · exact ⟨0, 0, bc, bs, Nat.le_refl _, Nat.le_refl _, body _ _ _ _ (fun a1 a2 => absurd ⟨a1, a2⟩ q) (fun u' _ a2 => by
              have := a2 q
              constructor <;> omega)⟩
        · rw [if_neg z0]
          exact ⟨fun _ => skip z0 h27 fq27 n27 y27, fun q => absurd rfl q⟩
      · have es : s = 12 * (D cu).1 := by omega
        refine c_enterNext x0 P0 (fun lt h36 fq n36 y => ⟨_, rfl, fun _ x39 e39 => ?_, fun z => absurd z (by decide)⟩) (fun ge h36 fq n36 y => ⟨_, rfl, fun z => absurd rfl z, fun _ => ⟨o125 y.1, ?_⟩⟩)
        · have e0 : e = 0 := by
            by_cases z : e = 1
            · have := (P.2.2.1 z).1
              omega
            · omega
          subst e0
          have ex : x39 = nI (t + 1) := by rw [e39]; exact nI_add t 1
          rw [ex]
          have T : TN G c D cu s g c D (cu + 1) 0 g 0 0 := Or.inl ⟨es, lt, rfl, rfl, rfl, rfl, rfl, rfl, rfl⟩
          have sm := SM_lt P T
          refine ih h36 W u c D (cu + 1) 0 g 0 0 (t + 1) bc bs (by omega) (TN_PVI P T) y (by omega) hg (fun z => absurd z (by decide)) hbc hbs (by omega) (fun h' W' u' c' D' cu' s' g' e' f' j ru hw fq' ci hu hn => kk h' W' u' c' D' cu' s' g' e' f' (j + 1) ⟨rfl, rfl, hgl, _, _, _, _, _, _, _, T, ru⟩ (fun a ha => hw a (by omega)) (FQ_trans fq (fun _ _ => rfl) fq') ci hu (by omega))
        · by_cases z : e = 1
          · subst z
            exact fin (same (Or.inl rfl)) fq n36 y
          · have e0 : e = 0 := by omega
            subst e0
            exact fin (j := 1) ⟨rfl, rfl, hgl, _, _, _, _, _, _, _, Or.inr (Or.inl ⟨es, ge, rfl, rfl, rfl, rfl, rfl, rfl, rfl⟩), ⟨rfl, rfl, rfl, rfl, rfl, rfl, rfl⟩, Or.inl rfl⟩ fq n36 y
end SGO3
