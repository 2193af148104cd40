/-! The class's search: keep. -/
def SO (h : AH) (W : Nat → Nat) (k a : Nat) : Prop := 216 ≤ a ∧ so h a ∧ W a = 1000 + k ∧ W (a + 1) = 1000 + k ∧ W (a + 2) = 1000 + k
def SU (h : AH) (W : Nat → Nat) (u : Nat) : Prop := u ≤ 100 ∧ (∀ k, k < u → ∃ a, ah_q h 126 k = some a ∧ SO h W k a) ∧ ∀ k, u ≤ k → k < 100 → ah_q h 126 k = none
/-- a state kept, at a -/
def SKk (h : AH) (W : Nat → Nat) (D : SD) (k a : Nat) : Prop := ah_q h 126 k = some a ∧ SO h W k a ∧ sD h a (D k).1 (D k).2.1 (D k).2.2.1 ∧ (0 < k → ah_f h a 5 = nI (D k).2.2.2.1 ∧ ah_f h a 6 = nI (D k).2.2.2.2)
def SK (h : AH) (W : Nat → Nat) (u c : Nat) (D : SD) : Prop := SU h W u ∧ c ≤ u ∧ ah_f h 125 11 = nI c ∧ ∀ k, k < c → ∃ a, SKk h W D k a
/-- what is looked for -/
def SA (h : AH) (G : Nat → Nat → (Nat → Nat) → Prop) : Prop := (ah_f h 125 10 = 0 ∧ ∀ n l A, n ≤ 12 → ¬ G n l A) ∨ (ah_f h 125 10 = 1 ∧ ∃ n l A, GDp n l A ∧ sD h 127 n l A ∧ ∀ n' l' A', G n' l' A' ↔ AK n' l' A' n l A)
section SKEEP
variable {h h1 h' : AH} {d bc bs : Nat} {Q : Option Value → AH → Prop} {W W' : Nat → Nat} {u c cu s n l a : Nat} {A : Nat → Nat} {D : SD} {G : Nat → Nat → (Nat → Nat) → Prop}
theorem SO_eq {k : Nat} (x : SO h W k a) (hW : ∀ a, a < ah_n h → W' a = W a) (e0 : eqc h h' a) (e1 : eqc h h' (a + 1)) (e2 : eqc h h' (a + 2)) (hn : ah_n h ≤ ah_n h') : SO h' W' k a := by
  obtain ⟨x1, x2, x3, x4, x5⟩ := x
  exact ⟨x1, so_eq x2 e0 e1 e2 hn, (hW _ x2.2.1.1).trans x3, (hW _ x2.2.2.2.2.1.1).trans x4, (hW _ x2.2.2.2.2.2.1).trans x5⟩
theorem SO_fr {L : List Nat} {k : Nat} (x : SO h W k a) (F : fr L h h') : SO h' W k a := ⟨x.1, so_fr x.2.1 F, x.2.2⟩
theorem SU_fr {L : List Nat} (x : SU h W u) (F : fr L h h') : SU h' W u := by
  refine ⟨x.1, fun k hk => ?_, fun k k1 k2 => by rw [F.1.2.2.2]; exact x.2.2 k k1 k2⟩
  obtain ⟨a, a1, a2⟩ := x.2.1 k hk
  exact ⟨a, by rw [F.1.2.2.2]; exact a1, SO_fr a2 F⟩
theorem SKk_fr {L : List Nat} {k : Nat} (x : SKk h W D k a) (F : fr L h h') (nl : ∀ j, j < 3 → a + j ∉ L) : SKk h' W D k a := by
  obtain ⟨x1, x2, x3, x4⟩ := x
  have e0 := fr_f F a (nl 0 (by omega))
  exact ⟨by rw [F.1.2.2.2]; exact x1, SO_fr x2 F, sD_eq x3 e0 (fr_i F _ (nl 1 (by omega))) (fr_i F _ (nl 2 (by omega))), by rw [e0]; exact x4⟩
theorem SKk_D {D' : SD} {k : Nat} (x : SKk h W D k a) (e : D' k = D k) : SKk h W D' k a := by
  unfold SKk
  rw [e]
  exact x
theorem SA_eq (x : SA h G) (e0 : ah_f h' 125 10 = ah_f h 125 10) (e1 : eqc h h' 127) (e2 : eqc h h' 128) (e3 : eqc h h' 129) : SA h' G := by
  rcases x with ⟨x1, x2⟩ | ⟨x1, n, l, A, x2, x3, x4⟩
  · exact Or.inl ⟨by rw [e0]; exact x1, x2⟩
  · exact Or.inr ⟨by rw [e0]; exact x1, n, l, A, x2, sD_eq x3 e1.2.1 e2.2.2.1 e3.2.2.1, x4⟩
/-- sharing the mark -/
theorem shV {a b n l n' l' : Nat} {A A' : Nat → Nat} (x : sD h a n l A) (y : sD h b n' l' A') (g : GDp n l A) (g' : GDp n' l' A') : (X10_sharesMark_V a b h = 0 → ¬ AK n l A n' l' A') ∧ (¬ X10_sharesMark_V a b h = 0 → n = n' ∧ l = l') := by
  have h1 := g.1
  have h2 := g'.1
  have h3 := g.2.1
  have h4 := g'.2.1
  unfold X10_sharesMark_V
  rw [x.1, x.2.1, x.2.2.1, y.1, y.2.1, y.2.2.1]
  constructor
  · intro z ak
    have em := AK_mark g.2.2 ak
    rw [if_pos em, if_pos (by rw [ak.2.1]), if_pos (by rw [ak.1])] at z
    exact absurd z (by decide)
  · intro z
    by_cases q1 : mk n (mt n A) (4 * n) = mk n' (mt n' A') (4 * n')
    · rw [if_pos q1] at z
      by_cases q2 : nI n = nI n'
      · rw [if_pos q2] at z
        by_cases q3 : nI l = nI l'
        · exact ⟨(nI_eq (by omega) (by omega)).mp q2, (nI_eq (by omega) (by omega)).mp q3⟩
        · rw [if_neg q3] at z
          exact absurd rfl z
      · rw [if_neg q2] at z
        exact absurd rfl z
    · rw [if_neg q1] at z
      exact absurd rfl z
def kpl (a : Nat) : List Nat := [125, 130, 131, 132, 133, a, a + 1, a + 2]
/-- what keep leaves -/
def KE (h h' : AH) (W : Nat → Nat) (u c : Nat) (D : SD) (G : Nat → Nat → (Nat → Nat) → Prop) (cu s n l : Nat) (A : Nat → Nat) (c' : Nat) (D' : SD) (f' : Nat) : Prop := KP G c D cu s n l A c' D' f' ∧ SK h' W u c' D' ∧ (∀ j, j ≠ 11 → j ≠ 15 → ah_f h' 125 j = ah_f h 125 j) ∧ (f' = 0 → ah_f h' 125 15 = ah_f h 125 15) ∧ (f' = 1 → ah_f h' 125 15 = nI (c' - 1))
theorem lkS_kpl (a : Nat) : ∀ x, x ∈ lkS → x ∈ kpl a := fun x hx => by
  unfold lkS at hx
  unfold kpl
  simp only [List.mem_cons, List.not_mem_nil, or_false] at hx ⊢
  omega
theorem c_keep81 {v1 v2 : Int32} (K0 : sp h) (su : SK h W u c D) (hc : c < u) (ha : ah_q h 126 c = some a) (SOa : SO h W c a) (Da : sD h a n l A) (gd : GDp n l A) (gs : ∀ k, k < c → GDp (D k).1 (D k).2.1 (D k).2.2.1) (sa : SA h G) (hv : 0 < c → v1 = nI cu ∧ v2 = nI s) (kk : ∀ h' c' D' f', KE h h' W u c D G cu s n l A c' D' f' → fr (kpl a) h h' → Q none h') : ex_G mX8_keep (d + 4) 81 [.ref 125, .int v1, .int v2, .ref a, .int (nI 0)] [] h bc bs Q := by
  have h216 := SOa.1
  have u100 := su.1.1
  have h12 := gd.1
  have n130 : ∀ j, j < 3 → a + j ∉ lkS := fun j _ => lkS_no (by omega)
  refine lp c (fun k h' => fr lkS h h' ∧ ∀ j, j < k → ¬ AK (D j).1 (D j).2.1 (D j).2.2.1 n l A) (fun k h' => ex_G mX8_keep (d + 4) 81 [.ref 125, .int v1, .int v2, .ref a, .int (nI k)] [] h' bc bs Q) ⟨fr_refl _ h, fun j hj => absurd hj (Nat.not_lt_zero j)⟩ ?_ ?_
  · rintro k h' hk ⟨F, no⟩ next
    have K := sp_fr K0 F
    have c11 : ah_f h' 125 11 = nI c := by rw [fr_f F 125 (by decide)]; exact su.2.2.1
    obtain ⟨b, kb⟩ := su.2.2.2 k hk
    have kb' := SKk_fr kb F (fun j _ => lkS_no (by have := kb.2.1.1; omega))
    have Da' : sD h' a n l A := sD_eq Da (fr_f F a (n130 0 (by omega))) (fr_i F _ (n130 1 (by omega))) (fr_i F _ (n130 2 (by omega)))
    have SOa' := SO_fr SOa F
    have gk := gs k hk
    have sv := shV kb'.2.2.1 Da' gk gd
    refine X8_keep_81 ⟨o125 K, fun w => ?_, fun _ => ⟨126, r125_0 K, (s126 K _).mpr ((ix_nI (by omega)).mpr (by omega)), b, by rw [nI_clamp (by omega)]; exact kb'.1, kb'.2.1.2.1.2.1, ⟨kb'.2.1.2.1.2.1, SOa'.2.1.2.1, trivial⟩, fun z => ?_, fun z => ?_⟩⟩
    · rw [c11, nI_leI (by omega) (by omega)] at w
      omega
    · intro x27 e27
      have e : x27 = nI (k + 1) := by rw [e27]; exact nI_add k 1
      rw [e]
      refine next h' ⟨F, fun j hj => ?_⟩
      by_cases q : j < k
      · exact no j q
      · have : j = k := by omega
        rw [this]
        exact sv.1 z
    · obtain ⟨en, el⟩ := sv.2 z
      have x1 := kb'.2.1.2.1.2.2.2.2.2
      have x2 := SOa'.2.1.2.2.2.2.2
      refine ⟨130, r125_2 K, b, by rw [nI_clamp (by omega)]; exact kb'.1, kb'.2.1.2.1.2.1, b + 2, kb'.2.1.2.1.2.2.2.1, SOa'.2.1.2.1, a + 2, SOa'.2.1.2.2.2.1, o130 K, ?_⟩
      rw [Da'.1]
      have b1 := kb'.2.1.2.1.1
      have b2 := SOa'.2.1.1
      have b0 := kb'.2.1.1
      have M1 : MA h' n (b + 2) (mt (D k).1 (D k).2.2.1) := ⟨⟨48, x1, by omega⟩, by omega, lkS_no (by omega), fun e he => kb'.2.2.1.2.2.2.2 e (by omega)⟩
      have M2 : MA h' n (a + 2) (mt n A) := ⟨⟨48, x2, by omega⟩, by omega, lkS_no (by omega), fun e he => Da'.2.2.2.2 e he⟩
      have iv1 : IV n (mt (D k).1 (D k).2.2.1) := by rw [← en]; exact gk.2.2.iv
      refine c_likeH (d := d) K (by omega) iv1 gd.2.2.iv M1 M2 (fun iso h34 F34 => ⟨_, rfl, fun w => absurd w (by decide), fun _ => ?_⟩) (fun ni h34 F34 => ⟨_, rfl, fun _ x38 e38 => ?_, fun w => absurd rfl w⟩)
      · have FF := fr_trans F F34
        refine kk h34 c D 0 ⟨Or.inl ⟨Or.inr ⟨k, hk, el, en, by rw [en]; rw [en] at iso; exact iso⟩, rfl, rfl, rfl⟩, ⟨SU_fr su.1 FF, su.2.1, by rw [fr_f FF 125 (by decide)]; exact su.2.2.1, fun j hj => ?_⟩, fun j _ _ => by rw [fr_f FF 125 (by decide)], fun _ => by rw [fr_f FF 125 (by decide)], fun w => absurd w (by decide)⟩ (fr_mono FF (lkS_kpl a))
        obtain ⟨b', y⟩ := su.2.2.2 j hj
        exact ⟨b', SKk_fr y FF (fun i _ => lkS_no (by have := y.2.1.1; omega))⟩
      · have e : x38 = nI (k + 1) := by rw [e38]; exact nI_add k 1
        rw [e]
        refine next h34 ⟨fr_trans F F34, fun j hj => ?_⟩
        by_cases q : j < k
        · exact no j q
        · have : j = k := by omega
          rw [this]
          intro ak
          have := ak.2.2
          rw [en] at this ni
          exact ni this
  · rintro h' ⟨F, no⟩
    have K := sp_fr K0 F
    have c11 : ah_f h' 125 11 = nI c := by rw [fr_f F 125 (by decide)]; exact su.2.2.1
    have Da' : sD h' a n l A := sD_eq Da (fr_f F a (n130 0 (by omega))) (fr_i F _ (n130 1 (by omega))) (fr_i F _ (n130 2 (by omega)))
    have SOa' := SO_fr SOa F
    refine X8_keep_81 ⟨o125 K, fun _ => ⟨SOa'.2.1.2.1, fun h4 e4 h5 e5 h6 e6 => ?_⟩, fun w => absurd ?_ w⟩
    rotate_left
    · rw [c11]
      exact (nI_leI (by omega) (by omega)).mpr (Nat.le_refl _)
    have m0 : a ∈ kpl a := by unfold kpl; exact (by simp only [List.mem_cons, List.not_mem_nil, or_false, true_or, or_true, not_true_eq_false] <;> omega)
    have mq : 125 ∈ kpl a := by unfold kpl; exact (by simp only [List.mem_cons, List.not_mem_nil, or_false, true_or, or_true, not_true_eq_false] <;> omega)
    have F5 : fr (kpl a) h' h5 := by rw [e5, e4]; exact fr_sf (fr_sf (fr_refl _ h') m0) m0
    have f5 : ah_f h5 125 = ah_f h' 125 := by rw [e5, f_sf_n _ _ _ _ _ (by omega), e4, f_sf_n _ _ _ _ _ (by omega)]
    have F6 : fr (kpl a) h' h6 := by rw [e6]; exact fr_sf F5 mq
    have f6 : ah_f h6 125 = u1 (ah_f h' 125) 11 (nI (c + 1)) := by
      rw [e6, f_sf_s, f5, c11]
      exact congrArg _ (nI_add c 1)
    have fa : ah_f h6 a = u1 (u1 (ah_f h' a) 5 v1) 6 v2 := by rw [e6, f_sf_n _ _ _ _ _ (by omega), e5, f_sf_s, e4, f_sf_s]
    have i6 : ah_i h6 = ah_i h' := by rw [e6, i_sf, e5, i_sf, e4, i_sf]
    have g6 : ∀ b, b ≠ 125 → b ≠ a → ah_f h6 b = ah_f h' b := fun b b1 b2 => by rw [e6, f_sf_n _ _ _ _ _ b1, e5, f_sf_n _ _ _ _ _ b2, e4, f_sf_n _ _ _ _ _ b2]
    clear e6 e5 e4
    have K6 := sp_fr K F6
    have D6 : sD h6 a n l A := by
      refine ⟨?_, ?_, ?_, by rw [i6]; exact Da'.2.2.2.1, by rw [i6]; exact Da'.2.2.2.2⟩
      · rw [fa, u1_n _ _ (by decide), u1_n _ _ (by decide)]; exact Da'.1
      · rw [fa, u1_n _ _ (by decide), u1_n _ _ (by decide)]; exact Da'.2.1
      · rw [fa, u1_n _ _ (by decide), u1_n _ _ (by decide)]; exact Da'.2.2.1
    have FF : fr (kpl a) h h6 := fr_trans (fr_mono F (lkS_kpl a)) F6
    have SO6 := SO_fr SOa FF
    have h10 : ah_f h6 125 10 = ah_f h 125 10 := by rw [f6, u1_n _ _ (by decide), fr_f F 125 (by decide)]
    have nk : ¬ KN c D n l A := fun ⟨j, j1, j2⟩ => no j j1 j2
    have sk6 : SK h6 W u (c + 1) (u1 D c (n, l, A, cu, s)) := by
      refine ⟨SU_fr su.1 FF, by omega, by rw [f6, u1_s], fun j hj => ?_⟩
      by_cases q : j < c
      · obtain ⟨b', y⟩ := su.2.2.2 j q
        have y0 := y.2.1.1
        have y1 := y.2.1.2.2
        have s1_ := SOa.2.2
        refine ⟨b', SKk_D (SKk_fr y FF (fun i hi => ?_)) (u1_n _ _ (by omega))⟩
        have d0 : b' ≠ a := fun e => by rw [e] at y1; omega
        have d1 : b' ≠ a + 1 := fun e => by rw [e] at y1; omega
        have d2 : b' ≠ a + 2 := fun e => by rw [e] at y1; omega
        have d3 : b' + 1 ≠ a := fun e => by rw [e] at y1; omega
        have d4 : b' + 1 ≠ a + 2 := fun e => by rw [e] at y1; omega
        have d5 : b' + 2 ≠ a := fun e => by rw [e] at y1; omega
        have d6 : b' + 2 ≠ a + 1 := fun e => by rw [e] at y1; omega
        unfold kpl
        simp only [List.mem_cons, List.not_mem_nil, or_false]
        omega
      · have : j = c := by omega
        subst this
        refine ⟨a, by rw [FF.1.2.2.2]; exact ha, SO6, by rw [u1_s]; exact D6, fun z => ?_⟩
        rw [u1_s, fa, u1_n _ _ (by decide), u1_s, u1_s]
        exact hv z
    have j6 : ∀ j, j ≠ 11 → j ≠ 15 → ah_f h6 125 j = ah_f h 125 j := fun j j1 _ => by rw [f6, u1_n _ _ j1, fr_f F 125 (by decide)]
    have end0 : ¬ G n l A → Q none h6 := fun ng => kk h6 (c + 1) _ 0 ⟨Or.inr ⟨by omega, nk, rfl, rfl, Or.inr ⟨rfl, ng⟩⟩, sk6, j6, fun _ => by rw [f6, u1_n _ _ (by decide), fr_f F 125 (by decide)], fun w => absurd w (by decide)⟩ FF
    rcases sa with ⟨a0, ng⟩ | ⟨a1, tn, tl, tA, tg, td, gi⟩
    · exact ⟨fun _ => end0 (ng n l A h12), fun w => absurd (h10.trans a0) w⟩
    · refine ⟨fun w => absurd ((h10.trans a1).symm.trans w) (by decide), fun _ => ⟨127, r125_1 K6, ⟨SO6.2.1.2.1, o127 K6, trivial⟩, ?_⟩⟩
      have nf : ∀ b, 127 ≤ b → b ≤ 129 → b ∉ kpl a := fun b b1 b2 => by
        unfold kpl
        simp only [List.mem_cons, List.not_mem_nil, or_false]
        omega
      have T6 : sD h6 127 tn tl tA := sD_eq td (fr_f FF 127 (nf _ (by decide) (by decide))) (fr_i FF 128 (nf _ (by decide) (by decide))) (fr_i FF 129 (nf _ (by decide) (by decide)))
      have sv := shV D6 T6 gd tg
      refine ⟨fun z => end0 (fun gg => sv.1 z ((gi n l A).mp gg)), fun z => ?_⟩
      obtain ⟨en, el⟩ := sv.2 z
      have x2 := SO6.2.1.2.2.2.2.2
      refine ⟨130, r125_2 K6, a + 2, SO6.2.1.2.2.2.1, o127 K6, 129, r127_1 K6, o130 K6, ?_⟩
      rw [T6.1]
      have b2 := SO6.2.1.1
      have t12 := tg.1
      have M1 : MA h6 tn (a + 2) (mt n A) := ⟨⟨48, x2, by omega⟩, by omega, lkS_no (by omega), fun e he => D6.2.2.2.2 e (by omega)⟩
      have M2 : MA h6 tn 129 (mt tn tA) := ⟨⟨48, sp_x K6 129 (by decide) rfl, by omega⟩, by decide, by decide, fun e he => T6.2.2.2.2 e he⟩
      have iv1 : IV tn (mt n A) := by rw [← en]; exact gd.2.2.iv
      refine c_likeH (d := d) K6 (by omega) iv1 tg.2.2.iv M1 M2 (fun iso h15 F15 => ⟨_, rfl, fun w => absurd w (by decide), fun _ => ⟨o125 (sp_fr K6 F15), fun h20 e20 => ?_⟩⟩) (fun ni h15 F15 => ⟨_, rfl, fun _ => ?_, fun w => absurd rfl w⟩)
      · have gg : G n l A := (gi n l A).mpr ⟨el, en, by rw [en]; rw [en] at iso; exact iso⟩
        have F20 : fr (kpl a) h6 h20 := by rw [e20]; exact fr_sf (fr_mono F15 (lkS_kpl a)) mq
        have f15 : ah_f h15 125 = ah_f h6 125 := fr_f F15 125 (by decide)
        have f20 : ah_f h20 125 = u1 (ah_f h6 125) 15 (nI c) := by
          rw [e20, f_sf_s, f15]
          congr 1
          rw [f6, u1_s]
          exact pk_sub (a := c + 1) (b := 1) (by omega)
        have i20 : ∀ b, b ∉ lkS → ah_i h20 b = ah_i h6 b := fun b hb => by rw [e20, i_sf]; exact fr_i F15 b hb
        have g20 : ∀ b, b ≠ 125 → b ∉ lkS → ah_f h20 b = ah_f h6 b := fun b b1 hb => by rw [e20, f_sf_n _ _ _ _ _ b1]; exact fr_f F15 b hb
        have FE : fr (125 :: lkS) h6 h20 := by
          rw [e20]
          exact fr_sf (fr_mono F15 (fun x hx => List.mem_cons_of_mem _ hx)) List.mem_cons_self
        clear e20
        refine kk h20 (c + 1) _ 1 ⟨Or.inr ⟨by omega, nk, rfl, rfl, Or.inl ⟨rfl, gg⟩⟩, ⟨SU_fr sk6.1 F20, sk6.2.1, by rw [f20, u1_n _ _ (by decide)]; exact sk6.2.2.1, fun j hj => ?_⟩, fun j j1 j2 => by rw [f20, u1_n _ _ j2]; exact j6 j j1 j2, fun w => absurd w (by decide), fun _ => by rw [f20, u1_s, Nat.add_sub_cancel]⟩ (fr_trans FF F20)
        obtain ⟨b', y⟩ := sk6.2.2.2 j hj
        refine ⟨b', SKk_fr y FE (fun i _ => ?_)⟩
        have y0 := y.2.1.1
        intro q
        rcases List.mem_cons.mp q with q | q
        · omega
        · exact lkS_no (by omega) q
      · have ng : ¬ G n l A := fun gg => by
          have := ((gi n l A).mp gg).2.2
          rw [en] at this ni
          exact ni this
        have F15' := fr_mono F15 (lkS_kpl a)
        refine kk h15 (c + 1) _ 0 ⟨Or.inr ⟨by omega, nk, rfl, rfl, Or.inr ⟨rfl, ng⟩⟩, ⟨SU_fr sk6.1 F15, sk6.2.1, by rw [fr_f F15 125 (by decide)]; exact sk6.2.2.1, fun j hj => ?_⟩, fun j j1 j2 => by rw [fr_f F15 125 (by decide)]; exact j6 j j1 j2, fun _ => by rw [fr_f F15 125 (by decide), f6, u1_n _ _ (by decide), fr_f F 125 (by decide)], fun w => absurd w (by decide)⟩ (fr_trans FF F15')
        obtain ⟨b', y⟩ := sk6.2.2.2 j hj
        exact ⟨b', SKk_fr y F15 (fun i _ => lkS_no (by have := y.2.1.1; omega))⟩
def kpL (a : Nat) : List Nat := [125, 130, 131, 132, 133, 153, 154, 155, 156, 163, a, a + 1, a + 2]
theorem c_keep38 {v1 v2 : Int32} (K : sp h) (su : SK h W u c D) (hc : c < u) (Dn : cD h 139 n l A) (gd : GDp n l A) (gs : ∀ k, k < c → GDp (D k).1 (D k).2.1 (D k).2.2.1) (sa : SA h G) (hv : 0 < c → v1 = nI cu ∧ v2 = nI s) (kk : ∀ h' a c' D' f', 216 ≤ a → W a = 1000 + c → W (a + 1) = 1000 + c → W (a + 2) = 1000 + c → a + 2 < ah_n h → a + 3 ≤ 10000000 → KE h h' W u c D G cu s n l A c' D' f' → fr (kpL a) h h' → Q none h') : ex_G mX8_keep (d + 4) 38 [.ref 125, .int v1, .int v2, .retAddr 0, .retAddr 0] [] h bc bs Q := by
  have u100 := su.1.1
  obtain ⟨a, ha, SOa⟩ := su.1.2.1 c hc
  have h12 := gd.1
  have h216 := SOa.1
  refine X8_keep_38 ⟨o125 K, 126, r125_0 K, ?_⟩
  rw [su.2.2.1]
  refine ⟨(s126 K _).mpr ((ix_nI (by omega)).mpr (by omega)), a, by rw [nI_clamp (by omega)]; exact ha, 153, r125_7 K, 139, r125_5 K, o153 K, ?_⟩
  refine c_pairUp (d := d + 2) (lk153 K) (pt139 K) (Or.inl (by decide)) Dn.1 Dn.2.1 (by omega) Dn.2.2.2 gd.2.2 (fun h7 F7 g1 g2 g3 g4 => ⟨rfl, ?_⟩)
  have K7 := sp_fr K F7
  refine ⟨o125 K7, 153, r125_7 K7, o153 K7, c_findRegions (A := A) (d := d + 1) (lk153 K7) (by omega) g1 g4 gd.2.2 (fun h11 F11 r1 r2 r3 => ⟨rfl, ?_⟩)⟩
  have K11 := sp_fr K7 F11
  have F0 : fr [153, 154, 155, 156, 163] h h11 := fr_trans (fr_mono F7 (by decide)) (fr_mono F11 (by decide))
  have SO11 := SO_fr SOa F0
  have i154 : ah_i h11 154 = ah_i h7 154 := fr_i F11 154 (by decide)
  refine ⟨o125 K11, 139, r125_5 K11, 153, r125_7 K11, SO11.2.1.2.1, c_hold (A := A) (n := n) (l := l) (d := d + 2) SO11.2.1 (pt139 K11) (lk153 K11) (Or.inr (by omega)) (Or.inr (by omega)) h12 (by rw [fr_f F0 139 (by decide)]; exact Dn.1) (by rw [fr_f F0 139 (by decide)]; exact Dn.2.1) (fun e he => by rw [fr_i F0 141 (by decide)]; exact Dn.2.2.2 e he) (by rw [r2 10 (by decide)]; exact g1) (fun e he => by rw [i154]; exact g4 e he) gd.2.2 r3 (by decide) (fun h16 F16 d16 => ⟨rfl, ?_⟩)⟩
  have n3 : ∀ j, j < 216 → j ∉ [a, a + 1, a + 2] := fun j hj => by
    simp only [List.mem_cons, List.not_mem_nil, or_false]
    omega
  have FF : fr (kpL a) h h16 := fr_trans (fr_mono F0 (fun x hx => by
    unfold kpL
    simp only [List.mem_cons, List.not_mem_nil, or_false] at hx ⊢
    omega)) (fr_mono F16 (fun x hx => by
    unfold kpL
    simp only [List.mem_cons, List.not_mem_nil, or_false] at hx ⊢
    omega))
  have K16 := sp_fr K11 F16
  have f125 : ah_f h16 125 = ah_f h 125 := by rw [fr_f F16 125 (n3 _ (by decide)), fr_f F0 125 (by decide)]
  have oth : ∀ k b, k < c → SKk h W D k b → SKk h16 W D k b := fun k b hk y => by
    have y0 := y.2.1.1
    have y1 := y.2.1.2.2
    have s1_ := SOa.2.2
    refine SKk_fr (SKk_fr y F0 (fun i hi => by simp only [List.mem_cons, List.not_mem_nil, or_false]; omega)) F16 (fun i hi => ?_)
    have d0 : b ≠ a := fun e => by rw [e] at y1; omega
    have d1 : b ≠ a + 1 := fun e => by rw [e] at y1; omega
    have d2 : b ≠ a + 2 := fun e => by rw [e] at y1; omega
    have d3 : b + 1 ≠ a := fun e => by rw [e] at y1; omega
    have d4 : b + 1 ≠ a + 2 := fun e => by rw [e] at y1; omega
    have d5 : b + 2 ≠ a := fun e => by rw [e] at y1; omega
    have d6 : b + 2 ≠ a + 1 := fun e => by rw [e] at y1; omega
    simp only [List.mem_cons, List.not_mem_nil, or_false]
    omega
  have su16 : SK h16 W u c D := ⟨SU_fr su.1 FF, su.2.1, by rw [f125]; exact su.2.2.1, fun k hk => by
    obtain ⟨b, y⟩ := su.2.2.2 k hk
    exact ⟨b, oth k b hk y⟩⟩
  have e127 : ∀ b, 127 ≤ b → b ≤ 129 → eqc h h16 b := fun b b1 b2 => eqc_fr FF (by
    unfold kpL
    simp only [List.mem_cons, List.not_mem_nil, or_false]
    omega)
  have sa16 : SA h16 G := SA_eq sa (by rw [f125]) (e127 127 (by decide) (by decide)) (e127 128 (by decide) (by decide)) (e127 129 (by decide) (by decide))
  refine c_keep81 (v1 := v1) (v2 := v2) (G := G) (cu := cu) (s := s) K16 su16 hc (by rw [FF.1.2.2.2]; exact ha) (SO_fr SOa FF) d16 gd gs sa16 hv (fun h' c' D' f' ke F' => kk h' a c' D' f' h216 SOa.2.2.1 SOa.2.2.2.1 SOa.2.2.2.2 SOa.2.1.2.2.2.2.2.1 SOa.2.1.1 ?_ ?_)
  · obtain ⟨k1, k2, k3, k4, k5⟩ := ke
    exact ⟨k1, k2, fun j j1 j2 => (k3 j j1 j2).trans (by rw [f125]), fun z => (k4 z).trans (by rw [f125]), k5⟩
  · exact fr_trans FF (fr_mono F' (fun x hx => by
      unfold kpl at hx
      unfold kpL
      simp only [List.mem_cons, List.not_mem_nil, or_false] at hx ⊢
      omega))
end SKEEP
