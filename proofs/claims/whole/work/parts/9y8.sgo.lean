/-! The class's search: keep from its start, enter, enterNext, go. -/
/-- cells of the search that may change -/
def SQ (a : Nat) : Prop := a = 125 ∨ a = 126 ∨ (130 ≤ a ∧ a ≤ 133) ∨ (136 ≤ a ∧ a ≤ 163)
/-- keep's frame -/
def KF (W : Nat → Nat) (h h' : AH) : Prop := (∀ a, ((a < 216 ∧ ¬ (a = 125 ∨ a = 126 ∨ (130 ≤ a ∧ a ≤ 133) ∨ (153 ≤ a ∧ a ≤ 163))) ∨ 10000000 ≤ a ∨ (216 ≤ a ∧ a < ah_n h ∧ W a < 1000)) → eqc h h' a) ∧ sp h'
def FQ (W : Nat → Nat) (h h' : AH) : Prop := ah_n h ≤ ah_n h' ∧ (∀ a, ((a < 216 ∧ ¬ SQ a) ∨ 10000000 ≤ a ∨ (216 ≤ a ∧ a < ah_n h ∧ W a < 1000)) → eqc h h' a) ∧ sp h' ∧ ah_f h' 125 8 = ah_f h 125 8 ∧ ah_f h' 125 10 = ah_f h 125 10
/-- where it stands -/
def SB (h : AH) (D : SD) (cu : Nat) : Prop := ah_f h 125 13 = nI cu ∧ cD h 136 (D cu).1 (D cu).2.1 (D cu).2.2.1 ∧ ah_f h 142 10 = nI (D cu).1 ∧ ∀ e, e < 4 * (D cu).1 → ah_i h 143 e = nI (mt (D cu).1 (D cu).2.2.1 e)
def CI (h : AH) (W : Nat → Nat) (u c : Nat) (D : SD) (cu s e f : Nat) (G : Nat → Nat → (Nat → Nat) → Prop) (st : Int32) : Prop := sp h ∧ SK h W u c D ∧ SB h D cu ∧ ah_f h 125 14 = nI s ∧ SA h G ∧ ah_f h 125 9 = nI e ∧ ah_f h 125 12 = st ∧ (f = 0 → ah_f h 125 15 = m1) ∧ (f = 1 → ah_f h 125 15 = nI (c - 1))
section SGO
variable {h h1 h2 h' : AH} {d bc bs : Nat} {Q : Option Value → AH → Prop} {W W' : Nat → Nat} {u c cu s n l a : Nat} {A : Nat → Nat} {D : SD} {G : Nat → Nat → (Nat → Nat) → Prop}
theorem eqc_refl (h : AH) (a : Nat) : eqc h h a := ⟨rfl, rfl, rfl, rfl, rfl, rfl⟩
theorem FQ_refl (K : sp h) : FQ W h h := ⟨Nat.le_refl _, fun a _ => eqc_refl h a, K, rfl, rfl⟩
theorem FQ_trans (x : FQ W h h1) (hW : ∀ a, a < ah_n h → W' a = W a) (y : FQ W' h1 h2) : FQ W h h2 := ⟨Nat.le_trans x.1 y.1, fun a ha => eqc_trans (x.2.1 a ha) (y.2.1 a (by
  rcases ha with q | q | ⟨q1, q2, q3⟩
  · exact Or.inl q
  · exact Or.inr (Or.inl q)
  · exact Or.inr (Or.inr ⟨q1, Nat.lt_of_lt_of_le q2 x.1, by rw [hW a q2]; exact q3⟩))), y.2.2.1, y.2.2.2.1.trans x.2.2.2.1, y.2.2.2.2.trans x.2.2.2.2⟩
theorem FQ_fr {L : List Nat} (K : sp h) (F : fr L h h') (s : ∀ a, a ∈ L → SQ a) (f8 : ah_f h' 125 8 = ah_f h 125 8) (f10 : ah_f h' 125 10 = ah_f h 125 10) : FQ W h h' := ⟨by rw [F.1.1]; exact Nat.le_refl _, fun a ha => eqc_fr F (fun q => by
  have := s a q
  unfold SQ at this ha
  omega), sp_fr K F, f8, f10⟩
theorem FQ_KF (hn : ah_n h ≤ ah_n h') (x : KF W h h') (fj : ∀ j, j ≠ 11 → j ≠ 15 → ah_f h' 125 j = ah_f h 125 j) : FQ W h h' := ⟨hn, fun a ha => x.1 a (by
  unfold SQ at ha
  omega), x.2, fj 8 (by decide) (by decide), fj 10 (by decide) (by decide)⟩
theorem SK_W (x : SK h W u c D) (hW : ∀ a, a < ah_n h → W' a = W a) : SK h W' u c D := by
  obtain ⟨⟨x1, x2, x3⟩, x4, x5, x6⟩ := x
  refine ⟨⟨x1, fun k hk => ?_, x3⟩, x4, x5, fun k hk => ?_⟩
  · obtain ⟨a, a1, a2⟩ := x2 k hk
    exact ⟨a, a1, SO_eq a2 hW (eqc_refl _ _) (eqc_refl _ _) (eqc_refl _ _) (Nat.le_refl _)⟩
  · obtain ⟨a, a1, a2, a3⟩ := x6 k hk
    exact ⟨a, a1, SO_eq a2 hW (eqc_refl _ _) (eqc_refl _ _) (eqc_refl _ _) (Nat.le_refl _), a3⟩
/-- a frame that leaves the states alone -/
theorem SK_fr {L : List Nat} (x : SK h W u c D) (F : fr L h h') (s : ∀ a, a ∈ L → a < 216) (f11 : ah_f h' 125 11 = ah_f h 125 11) : SK h' W u c D := by
  refine ⟨SU_fr x.1 F, x.2.1, by rw [f11]; exact x.2.2.1, fun k hk => ?_⟩
  obtain ⟨a, y⟩ := x.2.2.2 k hk
  exact ⟨a, SKk_fr y F (fun j _ q => by have := s _ q; have := y.2.1.1; omega)⟩
theorem c_keep {v1 v2 : Int32} {mc ms : Nat} (K : sp h) (su : SK h W u c D) (room : u = c → c < 100 → 3 ≤ mc ∧ 103 ≤ ms) (hmax : u = c → c < 100 → ah_n h + 3 ≤ 10000000) (Dn : cD h 139 n l A) (gd : GDp n l A) (gs : ∀ k, k < c → GDp (D k).1 (D k).2.1 (D k).2.2.1) (sa : SA h G) (hv : 0 < c → v1 = nI cu ∧ v2 = nI s) (kk : ∀ h' W' u' c' D' f', (∀ a, a < ah_n h → W' a = W a) → KE h h' W' u' c D G cu s n l A c' D' f' → ((u = c → c < 100 → u' = u + 1) ∧ (¬ (u = c ∧ c < 100) → u' = u) ∧ u ≤ u' ∧ ah_n h' = ah_n h + 3 * (u' - u)) → KF W h h' → Q none h') : ex_S yX8_keep mX8_keep (d + 4) [.ref 125, .int v1, .int v2] h mc ms Q := by
  have u100 := su.1.1
  have cu_ := su.2.1
  have f11 := su.2.2.1
  have n0 := K.1
  refine X8_keep_e ?_
  have kfL : ∀ {h0 h1 h' : AH} {W0 : Nat → Nat} {a : Nat}, 216 ≤ a → a + 2 < 10000000 → (∀ x, x = a ∨ x = a + 1 ∨ x = a + 2 → x < ah_n h0 → W x = 1000 + c) → (∀ x, ((x < 216 ∧ ¬ (x = 125 ∨ x = 126 ∨ (130 ≤ x ∧ x ≤ 133) ∨ (153 ≤ x ∧ x ≤ 163))) ∨ 10000000 ≤ x ∨ (216 ≤ x ∧ x < ah_n h0 ∧ W x < 1000)) → eqc h0 h1 x) → sp h1 → fr (kpL a) h1 h' → KF W h0 h' := by
    intro h0 h1 h' W0 a a0 a1 aw e K1 F
    refine ⟨fun x hx => eqc_trans (e x hx) (eqc_fr F (fun q => ?_)), sp_fr K1 F⟩
    have w0 := aw x
    unfold kpL at q
    simp only [List.mem_cons, List.not_mem_nil, or_false] at q
    omega
  by_cases q : c < 100
  · by_cases q2 : u = c
    · obtain ⟨r1, r2⟩ := room q2 q
      have hm := hmax q2 q
      obtain ⟨mc', rfl⟩ : ∃ x, mc = x + 3 := ⟨mc - 3, by omega⟩
      obtain ⟨ms', rfl⟩ : ∃ x, ms = x + 103 := ⟨ms - 103, by omega⟩
      have hq : ah_q h 126 c = none := su.1.2.2 c (by omega) q
      refine X8_keep_0 ⟨o125 K, fun _ => ⟨126, r125_0 K, ?_⟩, fun w => absurd ?_ w⟩
      · rw [f11, nI_clamp (by omega), hq]
        refine ⟨(s126 K _).mpr ((ix_nI (by omega)).mpr (by omega)), fun a6 z => absurd z (by simp), fun _ => ⟨by omega, fun h8 e8 => c_sinit (d := d + 2) e8 hm (fun h9 ns => ⟨rfl, ?_⟩)⟩⟩
        obtain ⟨n9, -, q9, so9⟩ := ns
        have K9 : sp h9 := sp_lo K (by omega) (fun a ha => q9 a (by omega) (by omega) (by omega))
        refine ⟨(s126 K9 _).mpr ((ix_nI (by omega)).mpr (by omega)), so9.2.1, fun h10 e10 => ?_⟩
        have n10 : ah_n h10 = ah_n h + 3 := by rw [e10, n_sq]; exact n9
        have q10 : ∀ a, a ≠ 126 → eqc h9 h10 a := fun a ha => by rw [e10]; exact ⟨by rw [k_sq], by rw [f_sq], by rw [i_sq], by rw [l_sq], by rw [r_sq], q_sq_n _ _ _ _ _ ha⟩
        have K10 : sp h10 := by rw [e10]; exact ⟨by rw [n_sq]; exact K9.1, fun a ha => by rw [k_sq]; exact K9.2.1 a ha, fun t ht => by rw [r_sq]; exact K9.2.2 t ht⟩
        have x10 : ah_q h10 126 = u1 (ah_q h 126) c (some (ah_n h)) := by
          rw [e10, q_sq_s, (q9 126 (by omega) (by omega) (by omega)).2.2.2.2.2]
        clear e10 e8
        have old : ∀ a, a ≠ 126 → a < ah_n h ∨ 10000000 ≤ a → eqc h h10 a := fun a a1 a2 => eqc_trans (q9 a (by omega) (by omega) (by omega)) (q10 a a1)
        obtain ⟨W', hW'⟩ : ∃ W' : Nat → Nat, W' = fun a => if ah_n h ≤ a then 1000 + c else W a := ⟨_, rfl⟩
        have wo : ∀ a, a < ah_n h → W' a = W a := fun a ha => by rw [hW']; exact if_neg (by omega)
        have wn : ∀ a, ah_n h ≤ a → W' a = 1000 + c := fun a ha => by rw [hW']; exact if_pos ha
        clear hW'
        have so10 : so h10 (ah_n h) := so_eq so9 (q10 _ (by omega)) (q10 _ (by omega)) (q10 _ (by omega)) (by omega)
        have oldS : ∀ k a, k < c → SO h W k a → SO h10 W' k a := fun k a hk y => by
          have y1 := y.2.1.2.1.1
          have y2 := y.2.1.2.2.2.2.1.1
          have y3 := y.2.1.2.2.2.2.2.1
          have y0 := y.1
          exact SO_eq y wo (old _ (by omega) (Or.inl y1)) (old _ (by omega) (Or.inl y2)) (old _ (by omega) (Or.inl y3)) (by omega)
        have su10 : SK h10 W' (u + 1) c D := by
          refine ⟨⟨by omega, fun k hk => ?_, fun k k1 k2 => ?_⟩, by omega, by rw [(old 125 (by decide) (by omega)).2.1]; exact f11, fun k hk => ?_⟩
          · by_cases z : k < c
            · obtain ⟨b, b1, b2⟩ := su.1.2.1 k (by omega)
              exact ⟨b, by rw [x10, u1_n _ _ (by omega)]; exact b1, oldS k b z b2⟩
            · have : k = c := by omega
              subst this
              exact ⟨ah_n h, by rw [x10, u1_s], n0, so10, wn _ (by omega), wn _ (by omega), wn _ (by omega)⟩
          · rw [x10, u1_n _ _ (by omega)]
            exact su.1.2.2 k (by omega) k2
          · obtain ⟨b, b1, b2, b3, b4⟩ := su.2.2.2 k hk
            have y0 := b2.1
            have y1 := b2.2.1.2.1.1
            have y2 := b2.2.1.2.2.2.2.1.1
            have y3 := b2.2.1.2.2.2.2.2.1
            have e0 := old b (by omega) (Or.inl y1)
            exact ⟨b, by rw [x10, u1_n _ _ (by omega)]; exact b1, oldS k b hk b2, sD_eq b3 e0.2.1 (old _ (by omega) (Or.inl y2)).2.2.1 (old _ (by omega) (Or.inl y3)).2.2.1, by rw [e0.2.1]; exact b4⟩
        have lo : ∀ a, a ≠ 126 → a < 216 → eqc h h10 a := fun a a1 a2 => old a a1 (Or.inl (by omega))
        have f125 := (lo 125 (by decide) (by decide)).2.1
        have D10 : cD h10 139 n l A := by
          obtain ⟨d1, d2, d3, d4⟩ := Dn
          unfold cD
          rw [(lo 139 (by decide) (by decide)).2.1]
          exact ⟨d1, d2, fun c hc => by rw [(lo 140 (by decide) (by decide)).2.2.1]; exact d3 c hc, fun e he => by rw [(lo 141 (by decide) (by decide)).2.2.1]; exact d4 e he⟩
        refine c_keep38 (G := G) (cu := cu) (s := s) (W := W') K10 su10 (by omega) D10 gd gs (SA_eq sa (by rw [f125]) (lo 127 (by decide) (by decide)) (lo 128 (by decide) (by decide)) (lo 129 (by decide) (by decide))) hv (fun h' a c' D' f' a0 w0 w1 w2 a2 a3 ke F => kk h' W' (u + 1) c' D' f' wo ?_ ⟨fun _ _ => rfl, fun z => absurd ⟨q2, q⟩ z, by omega, by rw [F.1.1, n10]; omega⟩ ?_)
        · obtain ⟨k1, k2, k3, k4, k5⟩ := ke
          exact ⟨k1, k2, fun j j1 j2 => (k3 j j1 j2).trans (by rw [f125]), fun z => (k4 z).trans (by rw [f125]), k5⟩
        · refine kfL (W0 := W') (h1 := h10) a0 (by omega) (fun x hx hx2 => ?_) (fun x hx => old x (by omega) (by omega)) K10 F
          rw [← wo x hx2]
          rcases hx with z | z | z
          · rw [z]; exact w0
          · rw [z]; exact w1
          · rw [z]; exact w2
      · rw [f11]
        exact (nI_ltI (b := 100) (by omega) (by omega)).mpr q
    · obtain ⟨b, b1, b2⟩ := su.1.2.1 c (by omega)
      refine X8_keepS_0 ⟨o125 K, fun _ => ⟨126, r125_0 K, ?_⟩, fun w => absurd ?_ w⟩
      · rw [f11, nI_clamp (by omega)]
        refine ⟨(s126 K _).mpr ((ix_nI (by omega)).mpr (by omega)), b, b1, c_keep38 (G := G) (cu := cu) (s := s) K su (by omega) Dn gd gs sa hv (fun h' a c' D' f' a0 w0 w1 w2 a2 a3 ke F => kk h' W u c' D' f' (fun _ _ => rfl) ke ⟨fun z => absurd z q2, fun _ => rfl, Nat.le_refl _, by rw [F.1.1]; omega⟩ ?_)⟩
        refine kfL (W0 := W) (h1 := h) a0 (by omega) (fun x hx hx2 => ?_) (fun x _ => eqc_refl h x) K F
        rcases hx with z | z | z
        · rw [z]; exact w0
        · rw [z]; exact w1
        · rw [z]; exact w2
      · rw [f11]
        exact (nI_ltI (b := 100) (by omega) (by omega)).mpr q
  · have c100 : c = 100 := by omega
    refine X8_keepS_0 ⟨o125 K, fun w => absurd ?_ q, fun _ => kk h W u c D 0 (fun _ _ => rfl) ⟨Or.inl ⟨Or.inl c100, rfl, rfl, rfl⟩, su, fun _ _ _ => rfl, fun _ => rfl, fun z => absurd z (by decide)⟩ ⟨fun _ z => absurd z q, fun _ => rfl, Nat.le_refl _, by omega⟩ ⟨fun a _ => eqc_refl h a, K⟩⟩
    rw [f11] at w
    exact (nI_ltI (b := 100) (by omega) (by omega)).mp w
end SGO
