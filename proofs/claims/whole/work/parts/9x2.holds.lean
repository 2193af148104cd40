/-! The class's likeness holds just when the pictures are alike. -/
def LiD (h : AH) (n : Nat) (D : Nat → Prop) (I : Nat → Nat) : Prop := (∀ c, c < n → (D c → ah_i h 131 c = nI (I c)) ∧ (¬ D c → ah_i h 131 c = m1)) ∧ ∀ y, y < n → ((∃ c, D c ∧ I c / 4 = y) → ah_i h 132 y = nI 1) ∧ ((¬ ∃ c, D c ∧ I c / 4 = y) → ah_i h 132 y = nI 0)
theorem LiD_of {h : AH} {n k : Nat} {D : Nat → Prop} {I q : Nat → Nat} (L : LiS h n D I q k) : LiD h n D I := ⟨L.2.1, L.2.2.1⟩
theorem LiD_congr {h : AH} {n : Nat} {D D' : Nat → Prop} {I I' : Nat → Nat} (L : LiD h n D I) (e : ∀ c, D c ↔ D' c) (i : ∀ c, D c → I' c = I c) : LiD h n D' I' := by
  refine ⟨fun c hc => ⟨fun z => ?_, fun z => (L.1 c hc).2 (fun w => z ((e c).mp w))⟩, fun y hy => ⟨fun ⟨c, z1, z2⟩ => ?_, fun z => (L.2 y hy).2 (fun ⟨c, z1, z2⟩ => z ⟨c, (e c).mp z1, by rw [i c z1]; exact z2⟩)⟩⟩
  · have := (e c).mpr z
    rw [i c this]
    exact (L.1 c hc).1 this
  · have := (e c).mpr z1
    exact (L.2 y hy).1 ⟨c, this, by rw [← i c this]; exact z2⟩
section HOLDS
variable {h : AH} {d bc bs : Nat} {Q : Option Value → AH → Prop}
theorem c_likWd {n k : Nat} {D E : Nat → Prop} {I q : Nat → Nat} (K : sp h) (h40 : n ≤ 40) (kn : k ≤ n) (hE : ∀ c, E c ↔ D c ∨ ∃ j, j < k ∧ q j = c) (hq : ∀ j, j < k → q j < n ∧ ¬ D (q j) ∧ I (q j) < 4 * n) (inj : ∀ a b, E a → E b → I a / 4 = I b / 4 → a = b) (ds : ∀ i j, i < j → j < k → q i ≠ q j) (L : LiS h n E I q k) (kk : ∀ h', fr lkS h h' → LiD h' n D I → Q none h') : ex_S yX3_withdraw mX3_withdraw d [.ref 130] h bc bs Q := by
  refine X3_withdraw_e (X3_withdraw_0 ?_)
  refine lp k (fun j h' => fr lkS h h' ∧ ah_f h' 130 3 = nI k ∧ ah_i h' 133 = ah_i h 133 ∧ LiD h' n (fun c => D c ∨ ∃ i, j ≤ i ∧ i < k ∧ q i = c) I) (fun j h' => ex_G mX3_withdraw d 2 [.ref 130, .int (nI j), .retAddr 0] [] h' bc bs Q) ⟨fr_refl _ h, L.1, rfl, LiD_congr (LiD_of L) (fun c => (hE c).trans ⟨fun w => ?_, fun w => ?_⟩) (fun _ _ => rfl)⟩ ?_ ?_
  · rcases w with w | ⟨j, hj, w⟩
    · exact Or.inl w
    · exact Or.inr ⟨j, Nat.zero_le _, hj, w⟩
  · rcases w with w | ⟨j, _, hj, w⟩
    · exact Or.inl w
    · exact Or.inr ⟨j, hj, w⟩
  · rintro j h1 hj ⟨F1, f1, g1, L1⟩ nx
    have K1 := sp_fr K F1
    have e1 : nI j + 1 = nI (j + 1) := nI_add _ 1
    obtain ⟨q1, q2, q3⟩ := hq j hj
    have me : D (q j) ∨ ∃ i, j ≤ i ∧ i < k ∧ q i = q j := Or.inr ⟨j, Nat.le_refl _, hj, rfl⟩
    have v3 : ah_i h1 133 j = nI (q j) := by rw [g1]; exact L.2.2.2 j hj
    have v1 : ah_i h1 131 (q j) = nI (I (q j)) := (L1.1 _ q1).1 me
    have sh : nI (I (q j)) >>> ((2 : Int32) &&& (31 : Int32)) = nI (I (q j) / 4) := by rw [l22]; exact shr2 (by omega)
    refine X3_withdraw_2 ⟨o130 K1, fun w => by rw [f1, nI_leI (by omega) (by omega)] at w; omega, fun _ => ⟨133, r130_2 K1, (s133 K1 _).mpr ((ix_nI (by omega)).mpr (by omega)), fun x5 e5 => ?_⟩⟩
    rw [nI_clamp (by omega), v3] at e5
    subst e5
    refine ⟨132, r130_1 K1, 131, r130_0 K1, (s131 K1 _).mpr ((ix_nI (by omega)).mpr (by omega)), ?_⟩
    rw [nI_clamp (show q j < 2 ^ 31 by omega), v1, sh, nI_clamp (show I (q j) / 4 < 2 ^ 31 by omega), e1]
    refine ⟨(t132 K1 _).mpr ((ix_nI (by omega)).mpr (by omega)), fun h9 e9 => ?_⟩
    have F9 : fr lkS h h9 := by rw [e9]; exact fr_si F1 (by decide)
    have K9 := sp_fr K F9
    refine ⟨(t131 K9 _).mpr ((ix_nI (by omega)).mpr (by omega)), fun h11 e11 x13 e13 => ?_⟩
    rw [e13]
    have i1 : ah_i h11 131 = u1 (ah_i h1 131) (q j) (-1) := by rw [e11, i_si_s, e9, i_si_n _ _ _ _ _ (by decide)]
    have i2 : ah_i h11 132 = u1 (ah_i h1 132) (I (q j) / 4) 0 := by rw [e11, i_si_n _ _ _ _ _ (by decide), e9, i_si_s]
    have big : ∀ c, (D c ∨ ∃ i, j ≤ i ∧ i < k ∧ q i = c) → E c := fun c w => (hE c).mpr (by
      rcases w with w | ⟨i, _, hi, w⟩
      · exact Or.inl w
      · exact Or.inr ⟨i, hi, w⟩)
    have next : ∀ c, (D c ∨ ∃ i, j ≤ i ∧ i < k ∧ q i = c) ↔ ((D c ∨ ∃ i, j + 1 ≤ i ∧ i < k ∧ q i = c) ∨ c = q j) := fun c => by
      constructor
      · rintro (w | ⟨i, a, b, w⟩)
        · exact Or.inl (Or.inl w)
        · by_cases z : i = j
          · rw [z] at w; exact Or.inr w.symm
          · exact Or.inl (Or.inr ⟨i, by omega, b, w⟩)
      · rintro ((w | ⟨i, a, b, w⟩) | w)
        · exact Or.inl w
        · exact Or.inr ⟨i, by omega, b, w⟩
        · exact Or.inr ⟨j, Nat.le_refl _, hj, w.symm⟩
    have nj : ¬ (D (q j) ∨ ∃ i, j + 1 ≤ i ∧ i < k ∧ q i = q j) := fun w => by
      rcases w with w | ⟨i, a, b, w⟩
      · exact q2 w
      · exact ds j i (by omega) b w.symm
    refine nx h11 ⟨by rw [e11]; exact fr_si F9 (by decide), by rw [e11, f_si, e9, f_si]; exact f1, by rw [e11, i_si_n _ _ _ _ _ (by decide), e9, i_si_n _ _ _ _ _ (by decide)]; exact g1, fun c hc => ⟨fun z => ?_, fun z => ?_⟩, fun y hy => ⟨fun ⟨c, z1, z2⟩ => ?_, fun z => ?_⟩⟩
    · rw [i1, u1_n _ _ (fun w => nj (by rw [← w]; exact z))]
      exact (L1.1 c hc).1 ((next c).mpr (Or.inl z))
    · rw [i1]
      by_cases w : c = q j
      · rw [w, u1_s]; rfl
      · rw [u1_n _ _ w]
        exact (L1.1 c hc).2 (fun w2 => by
          rcases (next c).mp w2 with w3 | w3
          · exact z w3
          · exact w w3)
    · have zc := (next c).mpr (Or.inl z1)
      rw [i2, u1_n _ _ (fun w => ?_)]
      · exact (L1.2 y hy).1 ⟨c, zc, z2⟩
      · have := inj c (q j) (big c zc) (big _ me) (by rw [z2, w])
        rw [this] at z1
        exact nj z1
    · rw [i2]
      by_cases w : y = I (q j) / 4
      · rw [w, u1_s]; rfl
      · rw [u1_n _ _ w]
        exact (L1.2 y hy).2 (fun ⟨c, w1, w2⟩ => by
          rcases (next c).mp w1 with w3 | w3
          · exact z ⟨c, w3, w2⟩
          · rw [w3] at w2; exact w w2.symm)
  · rintro h1 ⟨F1, f1, g1, L1⟩
    have K1 := sp_fr K F1
    refine X3_withdraw_2 ⟨o130 K1, fun _ => kk h1 F1 (LiD_congr L1 (fun c => ⟨fun w => ?_, fun w => Or.inl w⟩) (fun _ _ => rfl)), fun w => absurd (by rw [f1]; exact (nI_leI (by omega) (by omega)).mpr (Nat.le_refl _)) w⟩
    rcases w with w | ⟨i, a, b, -⟩
    · exact w
    · omega
/-- two rows of mates -/
def MA (h : AH) (n a : Nat) (m : Nat → Nat) : Prop := (∃ L, ah_x h a 0 L ∧ 4 * n ≤ L) ∧ a < 10000000 ∧ a ∉ lkS ∧ ∀ e, e < 4 * n → ah_i h a e = nI (m e)
theorem MA_fr {h' : AH} {n a : Nat} {m : Nat → Nat} (M : MA h n a m) (F : fr lkS h h') : MA h' n a m := by
  obtain ⟨⟨L, x, l⟩, b, s, v⟩ := M
  exact ⟨⟨L, ⟨by rw [F.1.1]; exact x.1, by rw [F.1.2.1]; exact x.2⟩, l⟩, b, s, fun e he => by rw [fr_i F a s]; exact v e he⟩
theorem c_findsPart {n c0 a1 a2 : Nat} {m m' I0 : Nat → Nat} {D : Nat → Prop} (K : sp h) (h40 : n ≤ 40) (iv : IV n m) (iv' : IV n m') (M1 : MA h n a1 m) (M2 : MA h n a2 m') (P0 : PIS n m m' D I0) (hc0 : c0 < n) (nc : ¬ D c0) (L : LiD h n D I0)
    (kt : ∀ h' E I, fr lkS h h' → PIS n m m' E I → (∀ c, D c → E c ∧ I c = I0 c) → E c0 → (∀ a, E a → ¬ D a → cc n m c0 a) → LiD h' n E I → Q (some (.int (nI 1))) h')
    (kf : ∀ h', fr lkS h h' → (¬ ∃ J, PIS n m m' (fun c => c < n) J ∧ ∀ c, D c → J c = I0 c) → Q (some (.int (nI 0))) h') : ex_S yX3_findsPart mX3_findsPart (d + 2) [.ref 130, .ref a1, .ref a2, .int (nI n), .int (nI c0)] h bc bs Q := by
  have e4 : (4 : Int32) * nI n = nI (4 * n) := pk_mul 4 n
  refine X3_findsPart_e (X3_findsPart_0 ?_)
  refine lp (2 * n) (fun t h' => fr lkS h h' ∧ LiD h' n D I0 ∧ ∀ s, s < t → ¬ ∃ J, PIS n m m' (fun c => c < n) J ∧ (∀ c, D c → J c = I0 c) ∧ J c0 = 2 * s) (fun t h' => ex_G mX3_findsPart (d + 2) 3 [.ref 130, .ref a1, .ref a2, .int (nI n), .int (nI c0), .int (nI (2 * t))] [] h' bc bs Q) ⟨fr_refl _ h, L, fun s hs => absurd hs (Nat.not_lt_zero s)⟩ ?_ ?_
  · rintro t h1 ht ⟨F1, L1, no⟩ nx
    have K1 := sp_fr K F1
    have sh : nI (2 * t) >>> ((2 : Int32) &&& (31 : Int32)) = nI (2 * t / 4) := by rw [l22]; exact shr2 (by omega)
    have e2 : nI (2 * t) + 2 = nI (2 * (t + 1)) := nI_add _ 2
    have y4 : 2 * t / 4 < n := by omega
    refine X3_findsPart_3 ⟨fun w => by rw [e4, nI_leI (by omega) (by omega)] at w; omega, fun _ => ⟨o130 K1, 132, r130_1 K1, ?_⟩⟩
    rw [sh, nI_clamp (show 2 * t / 4 < 2 ^ 31 by omega), e2]
    refine ⟨(s132 K1 _).mpr ((ix_nI (by omega)).mpr (by omega)), fun tk x6 e6 => ?_, fun un h7 e7 => ?_⟩
    · rw [e6]
      refine nx h1 ⟨F1, L1, fun s hs => ?_⟩
      by_cases z : s = t
      · rw [z]
        rintro ⟨J, pj, aj, ej⟩
        have ex : ∃ c, D c ∧ I0 c / 4 = 2 * t / 4 := Classical.byContradiction (fun w => tk ((L1.2 _ y4).2 w))
        obtain ⟨c, d1, d2⟩ := ex
        have := pj.2.1 c c0 (P0.1 c d1).1 hc0 (by rw [aj c d1, ej]; exact d2)
        rw [this] at d1
        exact nc d1
      · exact no s (by omega)
    · have ne : ¬ ∃ c, D c ∧ I0 c / 4 = 2 * t / 4 := fun w => by
        rw [(L1.2 _ y4).1 w] at un
        exact absurd un (by decide)
      have F7 : fr lkS h1 h7 := by rw [e7]; exact fr_sf (fr_refl _ h1) (by decide)
      have K7 := sp_fr K1 F7
      have f7 : ah_f h7 130 3 = nI 0 := by rw [e7, f_sf_s, u1_s]; rfl
      have i7 : ∀ a, ah_i h7 a = ah_i h1 a := fun a => by rw [e7, i_sf]
      have L7 : LiS h7 n D I0 (fun _ => 0) 0 := ⟨f7, by rw [i7]; exact L1.1, by rw [i7]; exact L1.2, fun j hj => absurd hj (Nat.not_lt_zero j)⟩
      obtain ⟨aC, aH⟩ := assignC (x := c0) (e := 2 * t) K7 (by omega) (by omega) (show 0 < 40 by decide) f7
      refine ⟨aC, fun h9 e9 => ?_⟩
      obtain ⟨F9, f9, g1, g2, g3⟩ := aH h9 e9
      have L9 := LiS_assign L7 nc ne f9 g1 g2 g3
      have F9' : fr lkS h h9 := fr_trans F1 (fr_trans F7 F9)
      have K9 := sp_fr K F9'
      obtain ⟨⟨n1_, x1, l1⟩, b1, s1, v1⟩ := MA_fr M1 F9'
      obtain ⟨⟨n2_, x2, l2⟩, b2, s2, v2⟩ := MA_fr M2 F9'
      refine ⟨o130 K9, c_spreads (d := d) K9 h40 iv iv' x1 x2 l1 l2 b1 b2 s1 s2 v1 v2 P0 hc0 nc (by omega) (by omega) ne L9 (fun h10 E I q k F10 pe ag ec con L10 => ⟨_, rfl, fun w => absurd w (by decide), fun _ => kt h10 E I (fr_trans F9' F10) pe ag ec con (LiD_of L10)⟩) (fun h10 E I q k F10 noJ kn hE hq inj ag ds L10 => ⟨_, rfl, fun _ => ?_, fun w => absurd rfl w⟩)⟩
      have K10 := sp_fr K9 F10
      refine ⟨o130 K10, c_likWd K10 h40 kn hE hq inj ds L10 (fun h14 F14 L14 => ⟨rfl, fun x16 e16 => ?_⟩)⟩
      rw [e16]
      refine nx h14 ⟨fr_trans F9' (fr_trans F10 F14), LiD_congr L14 (fun _ => Iff.rfl) (fun c hc => (ag c hc).symm), fun s hs => ?_⟩
      by_cases z : s = t
      · rw [z]; exact noJ
      · exact no s (by omega)
  · rintro h1 ⟨F1, L1, no⟩
    refine X3_findsPart_3 ⟨fun _ => kf h1 F1 (fun ⟨J, pj, aj⟩ => ?_), fun w => absurd (by rw [e4]; exact (nI_leI (by omega) (by omega)).mpr (by omega)) w⟩
    obtain ⟨-, j1, j2⟩ := pj.1 c0 hc0
    exact no (J c0 / 2) (by omega) ⟨J, pj, aj, by omega⟩
theorem c_likeH {n a1 a2 : Nat} {m m' : Nat → Nat} (K : sp h) (h40 : n ≤ 40) (iv : IV n m) (iv' : IV n m') (M1 : MA h n a1 m) (M2 : MA h n a2 m') (k1 : ISO n m m' → ∀ h', fr lkS h h' → Q (some (.int (nI 1))) h') (k0 : ¬ ISO n m m' → ∀ h', fr lkS h h' → Q (some (.int (nI 0))) h') : ex_S yX3_holds mX3_holds (d + 3) [.ref 130, .ref a1, .ref a2, .int (nI n)] h bc bs Q := by
  refine X3_holds_e (X3_holds_0 ⟨o130 K, 131, r130_0 K, j_fill (sp_x K 131 (by decide) rfl) (by decide) _ ⟨rfl, ?_⟩⟩)
  have F1 : fr lkS h (ah_wi h 131 (fl (ah_i h 131) 40 (-1))) := fr_wi (fr_refl _ h) (by decide)
  have g1 : ah_i (ah_wi h 131 (fl (ah_i h 131) 40 (-1))) 131 = fl (ah_i h 131) 40 (-1) := i_wi_s _ _ _
  generalize ah_wi h 131 (fl (ah_i h 131) 40 (-1)) = h1 at F1 g1 ⊢
  have K1 := sp_fr K F1
  refine ⟨o130 K1, 132, r130_1 K1, j_fill (sp_x K1 132 (by decide) rfl) (by decide) _ ⟨rfl, ?_⟩⟩
  have F2 : fr lkS h (ah_wi h1 132 (fl (ah_i h1 132) 40 0)) := fr_wi F1 (by decide)
  have g2 : ah_i (ah_wi h1 132 (fl (ah_i h1 132) 40 0)) 132 = fl (ah_i h1 132) 40 0 := i_wi_s _ _ _
  have g3 : ah_i (ah_wi h1 132 (fl (ah_i h1 132) 40 0)) 131 = ah_i h1 131 := i_wi_n _ _ _ _ (by decide)
  generalize ah_wi h1 132 (fl (ah_i h1 132) 40 0) = h2 at F2 g2 g3 ⊢
  refine lp (σ := AH × ((Nat → Prop) × (Nat → Nat))) n (fun c z => fr lkS h z.1 ∧ PIS n m m' z.2.1 z.2.2 ∧ LiD z.1 n z.2.1 z.2.2 ∧ (∀ x, x < c → z.2.1 x) ∧ (ISO n m m' → ∃ J, PIS n m m' (fun c => c < n) J ∧ ∀ c, z.2.1 c → J c = z.2.2 c)) (fun c z => ex_G mX3_holds (d + 3) 19 [.ref 130, .ref a1, .ref a2, .int (nI n), .int (nI c)] [] z.1 bc bs Q) (s := (h2, (fun _ => False), fun _ => 0)) ⟨F2, ⟨fun c hc => hc.elim, fun c c' hc => hc.elim, fun e he hc => hc.elim⟩, ⟨fun c hc => ⟨fun z => z.elim, fun _ => by show ah_i h2 131 c = m1; rw [g3, g1, fl_in (by omega)]; rfl⟩, fun y hy => ⟨fun ⟨c, z, _⟩ => z.elim, fun _ => by show ah_i h2 132 y = nI 0; rw [g2, fl_in (by omega)]; rfl⟩⟩, fun x hx => absurd hx (Nat.not_lt_zero x), fun ⟨J, pj⟩ => ⟨J, pj, fun c hc => hc.elim⟩⟩ ?_ ?_
  · rintro c ⟨h3, D, I⟩ hc ⟨F3, P3, L3, A3, X3⟩ nx
    have F3 : fr lkS h h3 := F3
    have P3 : PIS n m m' D I := P3
    have L3 : LiD h3 n D I := L3
    have A3 : ∀ x, x < c → D x := A3
    have X3 : ISO n m m' → ∃ J, PIS n m m' (fun c => c < n) J ∧ ∀ c, D c → J c = I c := X3
    have K3 := sp_fr K F3
    have e1 : nI c + 1 = nI (c + 1) := nI_add _ 1
    refine X3_holds_19 ⟨fun w => by rw [nI_leI (by omega) (by omega)] at w; omega, fun _ => ⟨o130 K3, 131, r130_0 K3, (s131 K3 _).mpr ((ix_nI (by omega)).mpr (by omega)), ?_⟩⟩
    rw [nI_clamp (show c < 2 ^ 31 by omega)]
    by_cases z : D c
    · have v : ah_i h3 131 c = nI (I c) := (L3.1 c hc).1 z
      have ic := (P3.1 c z).2.1
      have ge : (0 : Int32) ≤ ah_i h3 131 c := by rw [v]; exact (nI_leI (a := 0) (by omega) (by omega)).mpr (Nat.zero_le _)
      refine ⟨fun _ x6 e6 => ?_, fun w => absurd ge w⟩
      rw [e6, e1]
      refine nx (h3, D, I) ⟨F3, P3, L3, fun x hx => ?_, X3⟩
      by_cases w : x = c
      · rw [w]; exact z
      · exact A3 x (by omega)
    · have v : ah_i h3 131 c = m1 := (L3.1 c hc).2 z
      refine ⟨fun w => by rw [v] at w; exact absurd w (by decide), fun _ => ?_⟩
      refine c_findsPart (d := d) K3 h40 iv iv' (MA_fr M1 F3) (MA_fr M2 F3) P3 hc z L3 (fun h7 E J F7 pe ag ec con L7 => ⟨_, rfl, fun _ x10 e10 => ?_, fun w => absurd w (by decide)⟩) (fun h7 F7 noJ => ⟨_, rfl, fun w => absurd rfl w, fun _ => ?_⟩)
      · rw [e10, e1]
        refine nx (h7, E, J) ⟨fr_trans F3 F7, pe, L7, fun x hx => ?_, fun iso => ?_⟩
        · by_cases w : x = c
          · rw [w]; exact ec
          · exact (ag x (A3 x (by omega))).1
        · obtain ⟨J0, pj, aj⟩ := X3 iso
          refine iso_ex iv pj pe (fun c' hc' => (aj c' hc').trans (ag c' hc').2.symm) (fun c' hc' => (ag c' hc').1) (fun e he hd => (P3.2.2 e he hd).1) (fun a b ea na eb nb => ?_)
          exact cc_trans ((cc_EQ iv).2.1 _ _ hc (con a ea na)) (con b eb nb)
      · exact k0 (fun iso => noJ (X3 iso)) h7 (fr_trans F3 F7)
  · rintro ⟨h3, D, I⟩ ⟨F3, P3, L3, A3, X3⟩
    have A3 : ∀ x, x < n → D x := A3
    have P3 : PIS n m m' D I := P3
    refine X3_holds_19 ⟨fun _ => k1 ⟨I, fun c hc => P3.1 c (A3 c hc), fun c c' hc hc' => P3.2.1 c c' (A3 c hc) (A3 c' hc'), fun e he hd => ⟨(P3.1 _ (P3.2.2 e he (A3 _ hd)).1).1, (P3.2.2 e he (A3 _ hd)).2⟩⟩ h3 F3, fun w => absurd ((nI_leI (by omega) (by omega)).mpr (Nat.le_refl _)) w⟩
end HOLDS
