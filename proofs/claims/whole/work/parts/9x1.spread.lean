/-! The class follows a likeness along the arcs. -/
def lkS : List Nat := [130, 131, 132, 133]
/-- the state of Likeness: crossings of D are assigned by I; k of them stand in the queue q -/
def LiS (h : AH) (n : Nat) (D : Nat → Prop) (I q : Nat → Nat) (k : Nat) : Prop := ah_f h 130 3 = nI k ∧ (∀ c, c < n → (D c → ah_i h 131 c = nI (I c)) ∧ (¬ D c → ah_i h 131 c = m1)) ∧ (∀ y, y < n → ((∃ c, D c ∧ I c / 4 = y) → ah_i h 132 y = nI 1) ∧ ((¬ ∃ c, D c ∧ I c / 4 = y) → ah_i h 132 y = nI 0)) ∧ ∀ j, j < k → ah_i h 133 j = nI (q j)
theorem l22 : ((2 : Int32) &&& (31 : Int32)) = nI 2 := by decide
section SPREAD
variable {h : AH} {d bc bs : Nat} {Q : Option Value → AH → Prop}
theorem assignC {x e k : Nat} (K : sp h) (hx : x < 40) (he : e < 160) (hk : k < 40) (f3 : ah_f h 130 3 = nI k) : X3_assign_C 130 (nI x) (nI e) h ∧ ∀ h', h' = X3_assign_H 130 (nI x) (nI e) h → fr lkS h h' ∧ ah_f h' 130 3 = nI (k + 1) ∧ ah_i h' 131 = u1 (ah_i h 131) x (nI e) ∧ ah_i h' 132 = u1 (ah_i h 132) (e / 4) (nI 1) ∧ ah_i h' 133 = u1 (ah_i h 133) k (nI x) := by
  have sh : nI e >>> ((2 : Int32) &&& (31 : Int32)) = nI (e / 4) := by rw [l22]; exact shr2 (by omega)
  have c1 : Int32.toNatClampNeg (nI x) = x := nI_clamp (by omega)
  have c2 : Int32.toNatClampNeg (nI (e / 4)) = e / 4 := nI_clamp (by omega)
  have c3 : Int32.toNatClampNeg (nI k) = k := nI_clamp (by omega)
  have e1 : nI k + 1 = nI (k + 1) := nI_add _ 1
  constructor
  · refine ⟨o130 K, 131, r130_0 K, (t131 K _).mpr ((ix_nI (by omega)).mpr hx), 132, by rw [r_si]; exact r130_1 K, ?_, 133, by rw [r_si, r_si]; exact r130_2 K, ?_, trivial⟩
    · rw [st0_si, sh]
      exact (t132 K _).mpr ((ix_nI (by omega)).mpr (by omega))
    · rw [st0_si, st0_si, f_si, f_si, f3]
      exact (t133 K _).mpr ((ix_nI (by omega)).mpr hk)
  · intro h' q
    unfold X3_assign_H at q
    simp only [r_si, f_si, r130_0 K, r130_1 K, r130_2 K, Option.getD_some, sh, c1, c2, f3, c3, e1] at q
    have F : fr lkS h h' := by rw [q]; exact fr_sf (fr_si (fr_si (fr_si (fr_refl _ h) (by decide)) (by decide)) (by decide)) (by decide)
    refine ⟨F, by rw [q, f_sf_s, u1_s], ?_, ?_, ?_⟩
    · rw [q, i_sf, i_si_n _ _ _ _ _ (by decide), i_si_n _ _ _ _ _ (by decide), i_si_s]
    · rw [q, i_sf, i_si_n _ _ _ _ _ (by decide), i_si_s, i_si_n _ _ _ _ _ (by decide)]
      rfl
    · rw [q, i_sf, i_si_s, i_si_n _ _ _ _ _ (by decide), i_si_n _ _ _ _ _ (by decide)]
/-- one crossing more is assigned -/
theorem LiS_assign {n x e k : Nat} {D : Nat → Prop} {I q : Nat → Nat} {h' : AH} (L : LiS h n D I q k) (nx : ¬ D x) (ne : ¬ ∃ c, D c ∧ I c / 4 = e / 4) (f3 : ah_f h' 130 3 = nI (k + 1)) (g1 : ah_i h' 131 = u1 (ah_i h 131) x (nI e)) (g2 : ah_i h' 132 = u1 (ah_i h 132) (e / 4) (nI 1)) (g3 : ah_i h' 133 = u1 (ah_i h 133) k (nI x)) : LiS h' n (fun c => D c ∨ c = x) (u1 I x e) (u1 q k x) (k + 1) := by
  have iI_ : ∀ c, D c → u1 I x e c = I c := fun c hc => u1_n _ _ (fun z => nx (by rw [← z]; exact hc))
  refine ⟨f3, fun c hc => ⟨fun z => ?_, fun z => ?_⟩, fun y hy => ⟨fun z => ?_, fun z => ?_⟩, fun j hj => ?_⟩
  · rw [g1]
    by_cases w : c = x
    · rw [w, u1_s, u1_s]
    · rw [u1_n _ _ w, u1_n _ _ w]
      rcases z with z | z
      · exact (L.2.1 c hc).1 z
      · exact absurd z w
  · rw [g1, u1_n _ _ (fun w => z (Or.inr w))]
    exact (L.2.1 c hc).2 (fun w => z (Or.inl w))
  · rw [g2]
    by_cases w : y = e / 4
    · rw [w, u1_s]
    · rw [u1_n _ _ w]
      obtain ⟨c, c1 | c1, c2⟩ := z
      · rw [iI_ c c1] at c2
        exact (L.2.2.1 y hy).1 ⟨c, c1, c2⟩
      · rw [c1, u1_s] at c2
        exact absurd c2.symm w
  · rw [g2, u1_n _ _ (fun w => z ⟨x, Or.inr rfl, by rw [u1_s, w]⟩)]
    exact (L.2.2.1 y hy).2 (fun ⟨c, c1, c2⟩ => z ⟨c, Or.inl c1, by rw [iI_ c c1]; exact c2⟩)
  · rw [g3]
    by_cases w : j = k
    · rw [w, u1_s, u1_s]
    · rw [u1_n _ _ w, u1_n _ _ w]
      exact L.2.2.2 j (by omega)
/-- how far a likeness has been followed -/
def SPI (n : Nat) (m m' : Nat → Nat) (D : Nat → Prop) (I0 : Nat → Nat) (c0 e0 : Nat) (t i k : Nat) (q I : Nat → Nat) (E : Nat → Prop) : Prop :=
  (∀ c, E c ↔ D c ∨ ∃ j, j < k ∧ q j = c) ∧ (0 < k ∧ q 0 = c0 ∧ I c0 = e0) ∧ (∀ j, j < k → q j < n ∧ ¬ D (q j) ∧ I (q j) < 4 * n ∧ I (q j) % 2 = 0 ∧ cc n m c0 (q j)) ∧ (∀ a b, E a → E b → I a / 4 = I b / 4 → a = b) ∧ (∀ c, D c → I c = I0 c) ∧ (∀ j i', j < k → i' < 4 → (j < t ∨ (j = t ∧ i' < i)) → E (m (4 * q j + i') / 4) ∧ fe I (m (4 * q j + i')) = m' (fe I (4 * q j + i'))) ∧ (∀ J, PIS n m m' (fun c => c < n) J → (∀ c, D c → J c = I0 c) → J c0 = e0 → ∀ j, j < k → J (q j) = I (q j)) ∧ ∀ i j, i < j → j < k → q i ≠ q j
theorem c_spreads {n c0 e0 a1 a2 n1_ n2_ : Nat} {m m' I0 : Nat → Nat} {D : Nat → Prop} {q0 : Nat → Nat} (K : sp h) (h40 : n ≤ 40) (iv : IV n m) (iv' : IV n m') (x1 : ah_x h a1 0 n1_) (x2 : ah_x h a2 0 n2_) (l1 : 4 * n ≤ n1_) (l2 : 4 * n ≤ n2_) (b1 : a1 < 10000000) (b2 : a2 < 10000000) (s1 : a1 ∉ lkS) (s2 : a2 ∉ lkS) (h1_ : ∀ e, e < 4 * n → ah_i h a1 e = nI (m e)) (h2_ : ∀ e, e < 4 * n → ah_i h a2 e = nI (m' e)) (P0 : PIS n m m' D I0) (hc0 : c0 < n) (nc : ¬ D c0) (he0 : e0 < 4 * n) (ev : e0 % 2 = 0) (ne : ¬ ∃ c, D c ∧ I0 c / 4 = e0 / 4) (L : LiS h n (fun c => D c ∨ c = c0) (u1 I0 c0 e0) (u1 q0 0 c0) 1)
    (kt : ∀ h' E I q k, fr lkS h h' → PIS n m m' E I → (∀ c, D c → E c ∧ I c = I0 c) → E c0 → (∀ a, E a → ¬ D a → cc n m c0 a) → LiS h' n E I q k → Q (some (.int (nI 1))) h')
    (kf : ∀ h' E I q k, fr lkS h h' → (¬ ∃ J, PIS n m m' (fun c => c < n) J ∧ (∀ c, D c → J c = I0 c) ∧ J c0 = e0) → k ≤ n → (∀ c, E c ↔ D c ∨ ∃ j, j < k ∧ q j = c) → (∀ j, j < k → q j < n ∧ ¬ D (q j) ∧ I (q j) < 4 * n) → (∀ a b, E a → E b → I a / 4 = I b / 4 → a = b) → (∀ c, D c → I c = I0 c) → (∀ i j, i < j → j < k → q i ≠ q j) → LiS h' n E I q k → Q (some (.int (nI 0))) h') : ex_S yX3_spreads mX3_spreads (d + 1) [.ref 130, .ref a1, .ref a2] h bc bs Q := by
  have uI : ∀ c, D c → u1 I0 c0 e0 c = I0 c := fun c hc => u1_n _ _ (fun z => nc (by rw [← z]; exact hc))
  refine X3_spreads_e (X3_spreads_0 ?_)
  have fin : ∀ t h1 k q I E, fr lkS h h1 → SPI n m m' D I0 c0 e0 t 0 k q I E → LiS h1 n E I q k → k ≤ t → Q (some (.int (nI 1))) h1 := fun t h1 k q I E F1 S1 L1 kt_ => by
    obtain ⟨s0, s1_, s2_, s3, s4, s5, s6, s7⟩ := S1
    refine kt h1 E I q k F1 ⟨fun c hc => ?_, s3, fun e he hd => ?_⟩ (fun c hc => ⟨(s0 c).mpr (Or.inl hc), s4 c hc⟩) ((s0 c0).mpr (Or.inr ⟨0, s1_.1, s1_.2.1⟩)) (fun a ha na => ?_) L1
    · rcases (s0 c).mp hc with w | ⟨j, hj, w⟩
      · rw [s4 c w]; exact P0.1 c w
      · rw [← w]; exact ⟨(s2_ j hj).1, (s2_ j hj).2.2.1, (s2_ j hj).2.2.2.1⟩
    · rcases (s0 _).mp hd with w | ⟨j, hj, w⟩
      · obtain ⟨p1, p2⟩ := P0.2.2 e he w
        refine ⟨(s0 _).mpr (Or.inl p1), ?_⟩
        rw [fe_congr (J := I0) (s4 _ p1), fe_congr (J := I0) (s4 _ w)]
        exact p2
      · have := s5 j (e % 4) hj (by omega) (Or.inl (by omega))
        rw [w, show 4 * (e / 4) + e % 4 = e by omega] at this
        exact this
    · rcases (s0 a).mp ha with w | ⟨j, hj, w⟩
      · exact absurd w na
      · rw [← w]; exact (s2_ j hj).2.2.2.2
  have kn : ∀ t i k q I E, SPI n m m' D I0 c0 e0 t i k q I E → k ≤ n := fun t i k q I E S1 => php' (f := q) (fun j hj => (S1.2.2.1 j hj).1) (fun i j hij hj => S1.2.2.2.2.2.2.2 i j hij hj)
  have S0 : SPI n m m' D I0 c0 e0 0 0 1 (u1 q0 0 c0) (u1 I0 c0 e0) (fun c => D c ∨ c = c0) := by
    refine ⟨fun c => ?_, ⟨Nat.one_pos, u1_s _ _ _, u1_s _ _ _⟩, fun j hj => ?_, fun a b ha hb w => ?_, uI, fun j i' _ _ w => by omega, fun J pj aj ej j hj => ?_, fun i j hij hj => by omega⟩
    · constructor
      · rintro (w | w)
        · exact Or.inl w
        · exact Or.inr ⟨0, Nat.one_pos, by rw [w]; exact u1_s _ _ _⟩
      · rintro (w | ⟨j, hj, w⟩)
        · exact Or.inl w
        · have hj : j < 1 := hj
          rw [show j = 0 by omega] at w
          exact Or.inr (w.symm.trans (u1_s _ _ _))
    · have hj : j < 1 := hj
      have w : u1 q0 0 c0 j = c0 := by rw [show j = 0 by omega]; exact u1_s _ _ _
      show u1 q0 0 c0 j < n ∧ ¬ D (u1 q0 0 c0 j) ∧ u1 I0 c0 e0 (u1 q0 0 c0 j) < 4 * n ∧ u1 I0 c0 e0 (u1 q0 0 c0 j) % 2 = 0 ∧ cc n m c0 (u1 q0 0 c0 j)
      rw [w, u1_s]
      exact ⟨hc0, nc, he0, ev, cc_refl _⟩
    · have w : u1 I0 c0 e0 a / 4 = u1 I0 c0 e0 b / 4 := w
      rcases ha with ha | ha
      · rcases hb with hb | hb
        · rw [uI a ha, uI b hb] at w
          exact P0.2.1 a b ha hb w
        · rw [uI a ha, hb, u1_s] at w
          exact absurd ⟨a, ha, w⟩ ne
      · rcases hb with hb | hb
        · rw [uI b hb, ha, u1_s] at w
          exact absurd ⟨b, hb, w.symm⟩ ne
        · rw [ha, hb]
    · have hj : j < 1 := hj
      have w : u1 q0 0 c0 j = c0 := by rw [show j = 0 by omega]; exact u1_s _ _ _
      show J (u1 q0 0 c0 j) = u1 I0 c0 e0 (u1 q0 0 c0 j)
      rw [w, u1_s]
      exact ej
  refine lp (σ := AH × (Nat × ((Nat → Nat) × ((Nat → Nat) × (Nat → Prop))))) n (fun t z => fr lkS h z.1 ∧ SPI n m m' D I0 c0 e0 t 0 z.2.1 z.2.2.1 z.2.2.2.1 z.2.2.2.2 ∧ LiS z.1 n z.2.2.2.2 z.2.2.2.1 z.2.2.1 z.2.1) (fun t z => ex_G mX3_spreads (d + 1) 2 [.ref 130, .ref a1, .ref a2, .int (nI t), .retAddr 0, .retAddr 0, .retAddr 0, .retAddr 0, .retAddr 0, .retAddr 0] [] z.1 bc bs Q) (s := (h, 1, u1 q0 0 c0, u1 I0 c0 e0, fun c => D c ∨ c = c0)) ⟨fr_refl _ h, S0, L⟩ ?_ ?_
  · rintro t ⟨h1, k, q, I, E⟩ ht ⟨F1, S1, L1⟩ nx
    have F1 : fr lkS h h1 := F1
    have S1 : SPI n m m' D I0 c0 e0 t 0 k q I E := S1
    have L1 : LiS h1 n E I q k := L1
    have K1 := sp_fr K F1
    have k1 := kn _ _ _ _ _ _ S1
    have c40 : (40 : Int32) ≤ nI t ↔ 40 ≤ t := nI_leI (a := 40) (by omega) (by omega)
    refine X3_spreads_2 ⟨o130 K1, fun w => ?_, fun w => ⟨fun w2 => by have := c40.mp w2; omega, fun _ => ⟨133, r130_2 K1, (s133 K1 _).mpr ((ix_nI (by omega)).mpr (by omega)), fun x6 e6 => ?_⟩⟩⟩
    · rw [L1.1, nI_leI (by omega) (by omega)] at w
      exact fin t h1 k q I E F1 S1 L1 w
    rw [L1.1, nI_leI (by omega) (by omega)] at w
    have tk : t < k := by omega
    rw [nI_clamp (by omega), L1.2.2.2 t tk] at e6
    rw [e6]
    clear e6
    have qn := (S1.2.2.1 t tk).1
    refine lp (σ := AH × (Nat × ((Nat → Nat) × ((Nat → Nat) × (Nat → Prop))))) 4 (fun i z => fr lkS h z.1 ∧ SPI n m m' D I0 c0 e0 t i z.2.1 z.2.2.1 z.2.2.2.1 z.2.2.2.2 ∧ LiS z.1 n z.2.2.2.2 z.2.2.2.1 z.2.2.1 z.2.1 ∧ t < z.2.1 ∧ z.2.2.1 t = q t) (fun i z => ex_G mX3_spreads (d + 1) 27 [.ref 130, .ref a1, .ref a2, .int (nI t), .int (nI (q t)), .int (nI i), .retAddr 0, .retAddr 0, .retAddr 0, .retAddr 0] [] z.1 bc bs Q) (s := (h1, k, q, I, E)) ⟨F1, S1, L1, tk, rfl⟩ ?_ ?_
    · rintro i ⟨h2, k2, q2, I2, E2⟩ hi ⟨F2, S2, L2, tk2, qt⟩ nx2
      have F2 : fr lkS h h2 := F2
      have S2 : SPI n m m' D I0 c0 e0 t i k2 q2 I2 E2 := S2
      have L2_ : LiS h2 n E2 I2 q2 k2 := L2
      have tk2 : t < k2 := tk2
      have qt : q2 t = q t := qt
      have K2 := sp_fr K F2
      have k2n := kn _ _ _ _ _ _ S2
      obtain ⟨s0, s1_, s2_, s3, s4, s5, s6, s7⟩ := S2
      have st := s2_ t tk2
      rw [qt] at st
      obtain ⟨t1, t2, t3, t4, t5⟩ := st
      have Et : E2 (q t) := (s0 _).mpr (Or.inr ⟨t, tk2, qt⟩)
      have he : 4 * q t + i < 4 * n := by omega
      obtain ⟨me, mi⟩ := iv _ he
      have cI : cn (I2 (q t)) i < 4 * n := cn_lt i t3
      obtain ⟨me', -⟩ := iv' _ cI
      have feq : fe I2 (4 * q t + i) = cn (I2 (q t)) i := by
        unfold fe
        rw [show (4 * q t + i) / 4 = q t by omega, show (4 * q t + i) % 4 = i by omega]
      have e4 : (4 : Int32) * nI (q t) + nI i = nI (4 * q t + i) := by
        have : (4 : Int32) * nI (q t) = nI (4 * q t) := pk_mul 4 _
        rw [this, nI_add]
      have c4 : (4 : Int32) ≤ nI i ↔ 4 ≤ i := nI_leI (a := 4) (by omega) (by omega)
      have ei : nI i + 1 = nI (i + 1) := nI_add _ 1
      have y1 : ah_x h2 a1 0 n1_ := ⟨by rw [F2.1.1]; exact x1.1, by rw [F2.1.2.1]; exact x1.2⟩
      have y2 : ah_x h2 a2 0 n2_ := ⟨by rw [F2.1.1]; exact x2.1, by rw [F2.1.2.1]; exact x2.2⟩
      have v1 : ah_i h2 a1 (4 * q t + i) = nI (m (4 * q t + i)) := by rw [fr_i F2 a1 s1]; exact h1_ _ he
      have v2 : ah_i h2 a2 (cn (I2 (q t)) i) = nI (m' (cn (I2 (q t)) i)) := by rw [fr_i F2 a2 s2]; exact h2_ _ cI
      have v3 : ah_i h2 131 (q t) = nI (I2 (q t)) := (L2_.2.1 _ t1).1 Et
      have frc : ∀ J, PIS n m m' (fun c => c < n) J → (∀ c, D c → J c = I0 c) → J c0 = e0 → J (m (4 * q t + i) / 4) = cn (m' (cn (I2 (q t)) i)) (4 - m (4 * q t + i) % 4) := fun J pj aj ej => by
        have jt := s6 J pj aj ej t tk2
        rw [qt] at jt
        have := (pj.2.2 _ he (by show (4 * q t + i) / 4 < n; omega)).2
        have fj : fe J (4 * q t + i) = cn (I2 (q t)) i := by
          rw [← feq]
          exact fe_congr (by rw [show (4 * q t + i) / 4 = q t by omega]; exact jt)
        rw [fj] at this
        rw [← this]
        unfold fe
        rw [cn_back (by omega)]
      have agE : ∀ J, PIS n m m' (fun c => c < n) J → (∀ c, D c → J c = I0 c) → J c0 = e0 → ∀ c, E2 c → J c = I2 c := fun J pj aj ej c hc => by
        rcases (s0 c).mp hc with w | ⟨j, hj, w⟩
        · rw [aj c w, s4 c w]
        · rw [← w]; exact s6 J pj aj ej j hj
      have En : ∀ c, E2 c → c < n := fun c hc => by
        rcases (s0 c).mp hc with w | ⟨j, hj, w⟩
        · exact (P0.1 c w).1
        · rw [← w]; exact (s2_ j hj).1
      have bl_ : cn (m' (cn (I2 (q t)) i)) (4 - m (4 * q t + i) % 4) < 4 * n := cn_lt _ me'
      have bq : cn (m' (cn (I2 (q t)) i)) (4 - m (4 * q t + i) % 4) / 4 = m' (cn (I2 (q t)) i) / 4 := cn_q _ _
      have bf : cn (cn (m' (cn (I2 (q t)) i)) (4 - m (4 * q t + i) % 4)) (m (4 * q t + i) % 4) = m' (cn (I2 (q t)) i) := cn_forth (by omega)
      generalize hto : m (4 * q t + i) = to at *
      generalize hb : cn (m' (cn (I2 (q t)) i)) (4 - to % 4) = base at *
      generalize he' : m' (cn (I2 (q t)) i) = e' at *
      have fail : (¬ ∃ J, PIS n m m' (fun c => c < n) J ∧ (∀ c, D c → J c = I0 c) ∧ J c0 = e0) → Q (some (.int (nI 0))) h2 := fun no => kf h2 E2 I2 q2 k2 F2 no k2n s0 (fun j hj => ⟨(s2_ j hj).1, (s2_ j hj).2.1, (s2_ j hj).2.2.1⟩) s3 s4 s7 L2_
      have a3 : ∀ z : Nat, z < 2 ^ 31 → nI z &&& (3 : Int32) = nI (z % 4) := fun z hz => and3 hz
      have a1_ : ∀ z : Nat, z < 2 ^ 31 → nI z &&& (1 : Int32) = nI (z % 2) := fun z hz => and1 hz
      have sh : ∀ z : Nat, z < 2 ^ 31 → nI z >>> ((2 : Int32) &&& (31 : Int32)) = nI (z / 4) := fun z hz => by rw [l22]; exact shr2 hz
      refine X3_spreads_27 ⟨fun w => by have := c4.mp w; omega, fun _ => ?_⟩
      rw [e4]
      refine ⟨(ld0_x y1 _ b1).mpr ((ix_nI (by omega)).mpr (by omega)), fun x4 ex4 => ?_⟩
      rw [nI_clamp (by omega), v1] at ex4
      subst ex4
      refine ⟨o130 K2, 131, r130_0 K2, (s131 K2 _).mpr ((ix_nI (by omega)).mpr (by omega)), ?_⟩
      rw [nI_clamp (show q t < 2 ^ 31 by omega), v3, corner_nI (by omega) (by omega), nI_clamp (show cn (I2 (q t)) i < 2 ^ 31 by omega), v2]
      refine ⟨(ld0_x y2 _ b2).mpr ((ix_nI (by omega)).mpr (by omega)), fun x9 ex9 x10 ex10 x11 ex11 => ?_⟩
      subst ex9
      have f4 : (4 : Int32) - nI (to % 4) = nI (4 - to % 4) := pk_sub (a := 4) (by omega)
      rw [a3 to (by omega), f4, corner_nI (by omega) (by omega), hb] at ex10
      rw [sh to (by omega)] at ex11
      subst ex10
      subst ex11
      rw [a1_ base (by omega), sh e' (by omega), nI_clamp (show to / 4 < 2 ^ 31 by omega), nI_clamp (show e' / 4 < 2 ^ 31 by omega), ei]
      have p1 : nI (base % 2) = (1 : Int32) ↔ base % 2 = 1 := nI_eq (b := 1) (by omega) (by omega)
      rw [p1]
      have tn : to / 4 < n := by omega
      have i40 : ld0 h2 131 (nI (to / 4)) := (s131 K2 _).mpr ((ix_nI (by omega)).mpr (by omega))
      -- go on when the image is right
      have at122 : (E2 (to / 4) ∨ ∃ c, E2 c ∧ I2 c / 4 = e' / 4) → ex_G mX3_spreads (d + 1) 122 [.ref 130, .ref a1, .ref a2, .int (nI t), .int (nI (q t)), .int (nI i), .retAddr 0, .retAddr 0, .int (nI base), .int (nI (to / 4))] [] h2 bc bs Q := fun alt => by
        refine X3_spreads_122 ⟨o130 K2, 131, r130_0 K2, i40, ?_⟩
        rw [nI_clamp (show to / 4 < 2 ^ 31 by omega), ei]
        refine ⟨fun eq x5 e5 => ?_, fun neq => fail (fun ⟨J, pj, aj, ej⟩ => ?_)⟩
        · rw [e5]
          have Eto : E2 (to / 4) := Classical.byContradiction (fun w => by
            rw [(L2_.2.1 _ tn).2 w] at eq
            exact absurd eq (m1_en (by omega)))
          have Ito : I2 (to / 4) = base := by
            have gI : I2 (to / 4) < 4 * n := by
              rcases (s0 _).mp Eto with w | ⟨j, hj, w⟩
              · rw [s4 _ w]; exact (P0.1 _ w).2.1
              · rw [← w]; exact (s2_ j hj).2.2.1
            rw [(L2_.2.1 _ tn).1 Eto, nI_eq (by omega) (by omega)] at eq
            exact eq
          refine nx2 (h2, k2, q2, I2, E2) ⟨F2, ⟨s0, s1_, s2_, s3, s4, fun j i' hj hi' w => ?_, s6, s7⟩, L2_, tk2, qt⟩
          by_cases z : j = t ∧ i' = i
          · obtain ⟨z1, z2⟩ := z
            subst z1
            subst z2
            show E2 (m (4 * q2 j + i') / 4) ∧ fe I2 (m (4 * q2 j + i')) = m' (fe I2 (4 * q2 j + i'))
            rw [qt, hto, feq, he']
            refine ⟨Eto, ?_⟩
            unfold fe
            rw [Ito]
            exact bf
          · exact s5 j i' hj hi' (by omega)
        · have jb := frc J pj aj ej
          rcases alt with w | ⟨c, w1, w2⟩
          · rw [agE J pj aj ej _ w] at jb
            exact neq (by rw [(L2_.2.1 _ tn).1 w, jb])
          · have := pj.2.1 c (to / 4) (En c w1) tn (by rw [agE J pj aj ej c w1, jb, bq]; exact w2)
            rw [← this, agE J pj aj ej c w1] at jb
            refine neq ?_
            rw [← this, (L2_.2.1 _ (En c w1)).1 w1, jb]
      refine ⟨fun evb => ⟨i40, fun ge => at122 (Or.inl (Classical.byContradiction (fun w => ?_))), fun lt => ⟨132, r130_1 K2, (s132 K2 _).mpr ((ix_nI (by omega)).mpr (by omega)), fun tk_ => at122 (Or.inr (Classical.byContradiction (fun w => ?_))), fun un => ?_⟩⟩, fun odd => fail (fun ⟨J, pj, aj, ej⟩ => ?_)⟩
      · rw [(L2_.2.1 _ tn).2 w] at ge
        exact absurd ge (by decide)
      · exact tk_ ((L2_.2.2.1 _ (by omega)).2 w)
      · have nE : ¬ E2 (to / 4) := fun w => by
          have gI : I2 (to / 4) < 4 * n := by
            rcases (s0 _).mp w with w' | ⟨j, hj, w'⟩
            · rw [s4 _ w']; exact (P0.1 _ w').2.1
            · rw [← w']; exact (s2_ j hj).2.2.1
          rw [(L2_.2.1 _ tn).1 w] at lt
          have : (0 : Int32) ≤ nI (I2 (to / 4)) := (nI_leI (a := 0) (by omega) (by omega)).mpr (Nat.zero_le _)
          exact lt this
        have nT : ¬ ∃ c, E2 c ∧ I2 c / 4 = base / 4 := fun w => by
          rw [bq] at w
          rw [(L2_.2.2.1 _ (by omega)).1 w] at un
          exact absurd un (by decide)
        have qne : ∀ j, j < k2 → q2 j ≠ to / 4 := fun j hj w => nE ((s0 _).mpr (Or.inr ⟨j, hj, w⟩))
        have k2n' : k2 + 1 ≤ n := php' (f := u1 q2 k2 (to / 4)) (fun j hj => by
          by_cases z : j = k2
          · rw [z, u1_s]; exact tn
          · rw [u1_n _ _ z]; exact (s2_ j (by omega)).1) (fun a b hab hb' => by
          by_cases z : b = k2
          · rw [z, u1_s, u1_n _ _ (by omega)]; exact qne a (by omega)
          · rw [u1_n _ _ z, u1_n _ _ (by omega)]; exact s7 a b hab (by omega))
        obtain ⟨aC, aH⟩ := assignC (x := to / 4) (e := base) K2 (by omega) (by omega) (show k2 < 40 by omega) L2_.1
        refine ⟨aC, fun h19 e19 x20 e20 => ?_⟩
        obtain ⟨F19, f19, g1, g2, g3⟩ := aH h19 e19
        rw [e20]
        have L19 := LiS_assign L2_ nE nT f19 g1 g2 g3
        have oI : ∀ c, E2 c → u1 I2 (to / 4) base c = I2 c := fun c hc => u1_n _ _ (fun z => nE (by rw [← z]; exact hc))
        have oq : ∀ j, j < k2 → u1 q2 k2 (to / 4) j = q2 j := fun j hj => u1_n _ _ (by omega)
        have E0 : E2 c0 := (s0 _).mpr (Or.inr ⟨0, s1_.1, s1_.2.1⟩)
        have Eq : ∀ j, j < k2 → E2 (q2 j) := fun j hj => (s0 _).mpr (Or.inr ⟨j, hj, rfl⟩)
        have fo : ∀ e, E2 (e / 4) → fe (u1 I2 (to / 4) base) e = fe I2 e := fun e hE => fe_congr (oI _ hE)
        refine nx2 (h19, k2 + 1, u1 q2 k2 (to / 4), u1 I2 (to / 4) base, fun c => E2 c ∨ c = to / 4) ⟨fr_trans F2 F19, ⟨fun c => ?_, ⟨Nat.succ_pos _, (oq 0 s1_.1).trans s1_.2.1, (oI _ E0).trans s1_.2.2⟩, fun j hj => ?_, fun a b ha hb' w => ?_, fun c hc => (oI c ((s0 c).mpr (Or.inl hc))).trans (s4 c hc), fun j i' hj hi' w => ?_, fun J pj aj ej j hj => ?_, fun a b hab hb' => ?_⟩, L19, by show t < k2 + 1; omega, (oq t tk2).trans qt⟩
        · constructor
          · rintro (w | w)
            · rcases (s0 c).mp w with w' | ⟨j, hj, w'⟩
              · exact Or.inl w'
              · exact Or.inr ⟨j, by show j < k2 + 1; omega, (oq j hj).trans w'⟩
            · exact Or.inr ⟨k2, Nat.lt_succ_self _, by rw [w]; exact u1_s _ _ _⟩
          · rintro (w | ⟨j, hj, w⟩)
            · exact Or.inl ((s0 c).mpr (Or.inl w))
            · by_cases z : j = k2
              · rw [z] at w
                exact Or.inr (w.symm.trans (u1_s _ _ _))
              · have hj : j < k2 + 1 := hj
                exact Or.inl ((s0 c).mpr (Or.inr ⟨j, by omega, (oq j (by omega)).symm.trans w⟩))
        · have hj : j < k2 + 1 := hj
          show u1 q2 k2 (to / 4) j < n ∧ ¬ D (u1 q2 k2 (to / 4) j) ∧ u1 I2 (to / 4) base (u1 q2 k2 (to / 4) j) < 4 * n ∧ u1 I2 (to / 4) base (u1 q2 k2 (to / 4) j) % 2 = 0 ∧ cc n m c0 (u1 q2 k2 (to / 4) j)
          by_cases z : j = k2
          · rw [z, u1_s, u1_s]
            have stp_ := cc_step (n := n) (m := m) he
            rw [hto, show (4 * q t + i) / 4 = q t by omega] at stp_
            exact ⟨tn, fun w => nE ((s0 _).mpr (Or.inl w)), bl_, by omega, cc_trans t5 stp_⟩
          · rw [oq j (by omega), oI _ (Eq j (by omega))]
            exact s2_ j (by omega)
        · have w : u1 I2 (to / 4) base a / 4 = u1 I2 (to / 4) base b / 4 := w
          rcases ha with ha | ha
          · rcases hb' with hb' | hb'
            · rw [oI a ha, oI b hb'] at w
              exact s3 a b ha hb' w
            · rw [oI a ha, hb', u1_s] at w
              exact absurd ⟨a, ha, w⟩ nT
          · rcases hb' with hb' | hb'
            · rw [oI b hb', ha, u1_s] at w
              exact absurd ⟨b, hb', w.symm⟩ nT
            · rw [ha, hb']
        · have hj : j < k2 + 1 := hj
          have jk : j < k2 := by omega
          show (E2 (m (4 * u1 q2 k2 (to / 4) j + i') / 4) ∨ m (4 * u1 q2 k2 (to / 4) j + i') / 4 = to / 4) ∧ fe (u1 I2 (to / 4) base) (m (4 * u1 q2 k2 (to / 4) j + i')) = m' (fe (u1 I2 (to / 4) base) (4 * u1 q2 k2 (to / 4) j + i'))
          rw [oq j jk, fo (4 * q2 j + i') (by rw [show (4 * q2 j + i') / 4 = q2 j by omega]; exact Eq j jk)]
          by_cases z : j = t ∧ i' = i
          · obtain ⟨z1, z2⟩ := z
            subst z1
            subst z2
            rw [qt, hto, feq, he']
            refine ⟨Or.inr rfl, ?_⟩
            unfold fe
            rw [u1_s]
            exact bf
          · obtain ⟨w1, w2⟩ := s5 j i' jk hi' (by omega)
            exact ⟨Or.inl w1, by rw [fo _ w1]; exact w2⟩
        · have hj : j < k2 + 1 := hj
          show J (u1 q2 k2 (to / 4) j) = u1 I2 (to / 4) base (u1 q2 k2 (to / 4) j)
          by_cases z : j = k2
          · rw [z, u1_s, u1_s]
            exact frc J pj aj ej
          · rw [oq j (by omega), oI _ (Eq j (by omega))]
            exact s6 J pj aj ej j (by omega)
        · have hb' : b < k2 + 1 := hb'
          show u1 q2 k2 (to / 4) a ≠ u1 q2 k2 (to / 4) b
          by_cases z : b = k2
          · rw [z, u1_s, oq a (by omega)]; exact qne a (by omega)
          · rw [oq b (by omega), oq a (by omega)]; exact s7 a b hab (by omega)
      · have jb := frc J pj aj ej
        have := (pj.1 _ tn).2.2
        rw [jb] at this
        omega
    · rintro ⟨h2, k2, q2, I2, E2⟩ ⟨F2, S2, L2, tk2, qt⟩
      have e1 : nI t + 1 = nI (t + 1) := nI_add _ 1
      refine X3_spreads_27 ⟨fun _ x2 e2 => ?_, fun w => absurd (show (4 : Int32) ≤ nI 4 by decide) w⟩
      rw [e2, e1]
      obtain ⟨s0, s1_, s2_, s3, s4, s5, s6, s7⟩ := S2
      exact nx (h2, k2, q2, I2, E2) ⟨F2, ⟨s0, s1_, s2_, s3, s4, fun j i' hj hi' w => s5 j i' hj hi' (by omega), s6, s7⟩, L2⟩
  · rintro ⟨h1, k, q, I, E⟩ ⟨F1, S1, L1⟩
    have K1 := sp_fr K F1
    have L1 : LiS h1 n E I q k := L1
    have k1 : k ≤ n := kn _ _ _ _ _ _ S1
    refine X3_spreads_2 ⟨o130 K1, fun _ => fin n h1 k q I E F1 S1 L1 k1, fun w => absurd (by show ah_f h1 130 3 ≤ nI n; rw [L1.1]; exact (nI_leI (by omega) (by omega)).mpr k1) w⟩
end SPREAD
