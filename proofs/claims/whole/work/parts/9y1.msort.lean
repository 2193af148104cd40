/-! The reference sorts the codes of the parts and writes them down. -/
section MSORT
variable {h : AH} {d bc bs : Nat} {Q : Option Value → AH → Prop}
theorem m_sort {s n a2 o L2 l : Nat} {m : Nat → Nat} {Ns : Nat → Nat} {fs : Nat → Nat → Nat} (K : sp h) (iv : IV n m) (h40 : n ≤ 40) (h9 : l ≤ 9) (hs : s < 368) (hn : ah_i h 170 s = nI n) (hl : ah_i h 171 s = nI l) (T0 : PT n m h n Ns fs) (x2 : ah_x h a2 0 L2) (ha : a2 = 207 ∨ a2 = 208 ∨ a2 = 211) (room : o + 3 + 5 * n ≤ L2) (big : L2 < 100000)
    (k : ∀ h' P Nk fk, fr [206, a2] h h' → CD n m P Nk fk → OB l n P Nk fk → OUT (ah_i h' a2) o l n P Nk fk → qp Nk P < 3 + 5 * n → (∀ i, i < o → ah_i h' a2 i = ah_i h a2 i) → Q none h') : ex_S yX12_sortInto mX12_sortInto (d + 1) [.ref 168, .int (nI (ct (c1 n m) n)), .ref a2, .int (nI o), .int (nI s)] h bc bs Q := by
  have nm : ∀ a, a ≠ 206 → a ≠ a2 → a ∉ [206, a2] := fun a a1 a2 => by simp only [List.mem_cons, List.not_mem_nil, or_false]; omega
  have m206 : 206 ∈ [206, a2] := by simp only [List.mem_cons, true_or]
  have ma2 : a2 ∈ [206, a2] := by simp only [List.mem_cons, List.not_mem_nil, or_false, or_true]
  have P_le : ct (c1 n m) n ≤ n := ct_le _ _
  obtain ⟨ofe, PTp⟩ := T0
  generalize hP : ct (c1 n m) n = P at *
  have ofl : offN Ns P ≤ 160 := by
    have : ct (fun x => ∃ y, y < n ∧ c1 n m y ∧ cc n m y x) n ≤ n := ct_le _ _
    omega
  obtain ⟨ys, hys⟩ := chs (n := P) (R := fun p y => y < n ∧ c1 n m y ∧ ct (c1 n m) y = p ∧ PCd n m y (Ns p) (fs p)) (fun p hp => (PTp p hp).2.1)
  have sz : ∀ p, p < P → Ns p = ct (cc n m (ys p)) n := fun p hp => by
    obtain ⟨y1, y2, y3, ⟨⟨dd, b, o1, b1, w1⟩, -⟩⟩ := hys p hp
    rw [WC_size iv (cc_lt' iv y1 o1) b1 w1]
    exact ct_congr (fun x _ => ⟨fun q => cc_trans o1 q, fun q => cc_trans ((cc_EQ iv).2.1 _ _ y1 o1) q⟩)
  have ob : ∀ p, p < P → offN Ns p + 4 * Ns p ≤ 160 := fun p hp => by
    have := offN_mono (Ns := Ns) (show p + 1 ≤ P by omega)
    rw [offN_s] at this
    omega
  have x2' : ∀ h', fr [206, a2] h h' → ah_x h' a2 0 L2 := fun h' F => ⟨by rw [F.1.1]; exact x2.1, by rw [F.1.2.1]; exact x2.2⟩
  have l2_ : a2 < 10000000 := by omega
  have keep : ∀ h', fr [206, a2] h h' → sp h' ∧ ah_i h' 204 = ah_i h 204 ∧ ah_i h' 205 = ah_i h 205 := fun h' F => ⟨sp_fr K F, fr_i F 204 (nm _ (by omega) (by omega)), fr_i F 205 (nm _ (by omega) (by omega))⟩
  have e1o : nI o + 1 = nI (o + 1) := nI_add _ 1
  have e2o : nI o + 2 = nI (o + 2) := nI_add _ 2
  refine X12_sortInto_e (X12_sortInto_0 ⟨o168 K, 171, r168_3 K, (s171 K _).mpr ((ix_nI (by omega)).mpr (by omega)), (st0_x x2 _).mpr ((ix_nI (by omega)).mpr (by omega)), fun h4 e4 => ?_⟩)
  rw [nI_clamp (by omega), nI_clamp (by omega), hl] at e4
  have F4 : fr [206, a2] h h4 := by rw [e4]; exact fr_si (fr_refl _ h) ma2
  have K4 := sp_fr K F4
  refine ⟨170, r168_2 K4, (s170 K4 _).mpr ((ix_nI (by omega)).mpr (by omega)), ?_⟩
  rw [e1o, e2o, nI_clamp (show s < 2 ^ 31 by omega), fr_i F4 170 (nm _ (by omega) (by omega)), hn]
  refine ⟨(st0_x (x2' h4 F4) _).mpr ((ix_nI (by omega)).mpr (by omega)), fun h8 e8 x10 e10 => ?_⟩
  rw [nI_clamp (by omega)] at e8
  rw [e10]
  have F8 : fr [206, a2] h h8 := by rw [e8]; exact fr_si F4 ma2
  have g8 : ah_i h8 a2 = u1 (u1 (ah_i h a2) o (nI l)) (o + 1) (nI n) := by rw [e8, i_si_s, e4, i_si_s]
  clear e4 e8 e10 F4 K4
  refine lp P (fun j h' => fr [206, a2] h h' ∧ ah_i h' a2 = ah_i h8 a2 ∧ ∀ p, p < j → ah_i h' 206 p = nI 0) (fun j h' => ex_G mX12_sortInto (d + 1) 30 [.ref 168, .int (nI P), .ref a2, .retAddr 0, .retAddr 0, .int (nI (o + 2)), .int (nI j), .retAddr 0, .retAddr 0] [] h' bc bs Q) ⟨F8, rfl, fun p hp => absurd hp (Nat.not_lt_zero p)⟩ ?_ ?_
  · rintro j h9_ hj ⟨F9, g9, I9⟩ nx
    have K9 := sp_fr K F9
    have e1 : nI j + 1 = nI (j + 1) := nI_add _ 1
    refine X12_sortInto_30 ⟨fun w => by rw [nI_leI (by omega) (by omega)] at w; omega, fun _ => ⟨o168 K9, 206, r168_46 K9, (s206 K9 _).mpr ((ix_nI (by omega)).mpr (by omega)), fun h10 e10 x6 e6 => ?_⟩⟩
    rw [nI_clamp (by omega)] at e10
    rw [e6, e1]
    refine nx h10 ⟨by rw [e10]; exact fr_si F9 m206, by rw [e10, i_si_n _ _ _ _ _ (by omega)]; exact g9, fun p hp => ?_⟩
    rw [e10, i_si_s]
    by_cases z : p = j
    · rw [z, u1_s]; rfl
    · rw [u1_n _ _ z]; exact I9 p (by omega)
  rintro h9_ ⟨F9, g9, I9⟩
  refine X12_sortInto_30 ⟨fun _ => ?_, fun w => absurd ((nI_leI (by omega) (by omega)).mpr (Nat.le_refl _)) w⟩
  -- the turns
  refine lp (σ := AH × (Nat → Nat)) P (fun j z => fr [206, a2] h z.1 ∧ (∀ i, i < j → z.2 i < P) ∧ (∀ i i', i < i' → i' < j → z.2 i ≠ z.2 i') ∧ (∀ p, p < P → ((∃ i, i < j ∧ z.2 i = p) → ah_i z.1 206 p = nI 1) ∧ ((¬ ∃ i, i < j ∧ z.2 i = p) → ah_i z.1 206 p = nI 0)) ∧ (ah_i z.1 a2 o = nI l ∧ ah_i z.1 a2 (o + 1) = nI n ∧ (∀ i, i < o → ah_i z.1 a2 i = ah_i h a2 i) ∧ ∀ i, i < j → ah_i z.1 a2 (o + qp (fun i => Ns (z.2 i)) i) = -nI (4 * Ns (z.2 i)) ∧ ∀ t, t < 4 * Ns (z.2 i) → ah_i z.1 a2 (o + qp (fun i => Ns (z.2 i)) i + 1 + t) = nI (fs (z.2 i) t)) ∧ (∀ i, i < j → ∀ p, p < P → (∀ i', i' < i → z.2 i' ≠ p) → ¬ clt (Ns p) (fs p) (Ns (z.2 i)) (fs (z.2 i))) ∧ qp (fun i => Ns (z.2 i)) j = 2 + j + 4 * ct (fun x => ∃ i, i < j ∧ cc n m (ys (z.2 i)) x) n) (fun j z => ex_G mX12_sortInto (d + 1) 53 [.ref 168, .int (nI P), .ref a2, .retAddr 0, .retAddr 0, .int (nI (o + qp (fun i => Ns (z.2 i)) j)), .int (nI j), .retAddr 0, .retAddr 0] [] z.1 bc bs Q) (s := (h9_, fun _ => 0)) ⟨F9, fun i hi => absurd hi (Nat.not_lt_zero i), fun i i' _ hi => absurd hi (Nat.not_lt_zero i'), fun p hp => ⟨fun ⟨i, hi, _⟩ => absurd hi (Nat.not_lt_zero i), fun _ => I9 p hp⟩, ⟨?_, ?_, fun i hi => ?_, fun i hi => absurd hi (Nat.not_lt_zero i)⟩, fun i hi => absurd hi (Nat.not_lt_zero i), ?_⟩ ?_ ?_
  · show ah_i h9_ a2 o = nI l
    rw [g9, g8, u1_n _ _ (by omega), u1_s]
  · show ah_i h9_ a2 (o + 1) = nI n
    rw [g9, g8, u1_s]
  · show ah_i h9_ a2 i = ah_i h a2 i
    rw [g9, g8, u1_n _ _ (by omega), u1_n _ _ (by omega)]
  · show 2 = 2 + 0 + 4 * ct (fun x => ∃ i, i < 0 ∧ cc n m (ys ((fun _ => 0) i)) x) n
    rw [ct_none (fun i _ ⟨y, hy, _⟩ => absurd hy (Nat.not_lt_zero y))]
  · rintro j ⟨h1, sg⟩ hj ⟨F1, S1, S2, S3, ⟨W1, W2, W3, W4⟩, S5, S6⟩ nx
    have F1 : fr [206, a2] h h1 := F1
    have S1 : ∀ i, i < j → sg i < P := S1
    have S2 : ∀ i i', i < i' → i' < j → sg i ≠ sg i' := S2
    have S3 : ∀ p, p < P → ((∃ i, i < j ∧ sg i = p) → ah_i h1 206 p = nI 1) ∧ ((¬ ∃ i, i < j ∧ sg i = p) → ah_i h1 206 p = nI 0) := S3
    have W1 : ah_i h1 a2 o = nI l := W1
    have W2 : ah_i h1 a2 (o + 1) = nI n := W2
    have W3 : ∀ i, i < o → ah_i h1 a2 i = ah_i h a2 i := W3
    have W4 : ∀ i, i < j → ah_i h1 a2 (o + qp (fun i => Ns (sg i)) i) = -nI (4 * Ns (sg i)) ∧ ∀ t, t < 4 * Ns (sg i) → ah_i h1 a2 (o + qp (fun i => Ns (sg i)) i + 1 + t) = nI (fs (sg i) t) := W4
    have S5 : ∀ i, i < j → ∀ p, p < P → (∀ i', i' < i → sg i' ≠ p) → ¬ clt (Ns p) (fs p) (Ns (sg i)) (fs (sg i)) := S5
    have S6 : qp (fun i => Ns (sg i)) j = 2 + j + 4 * ct (fun x => ∃ i, i < j ∧ cc n m (ys (sg i)) x) n := S6
    have ctl : ct (fun x => ∃ i, i < j ∧ cc n m (ys (sg i)) x) n ≤ n := ct_le _ _
    obtain ⟨K1, i4, i5⟩ := keep h1 F1
    refine X12_sortInto_53 ⟨fun w => by rw [nI_leI (by omega) (by omega)] at w; omega, fun _ => ?_⟩
    have of_ : ∀ p, p < P → ah_i h1 204 p = nI (offN Ns p) ∧ ah_i h1 204 (p + 1) = nI (offN Ns p + 4 * Ns p) := fun p hp => by
      obtain ⟨-, -, a3, a4, -⟩ := PTp p hp
      rw [i4]
      exact ⟨a3, a4⟩
    have cds : ∀ p, p < P → ∀ t, t < 4 * Ns p → ah_i h1 205 (offN Ns p + t) = nI (fs p t) ∧ fs p t < 100000 := fun p hp t ht => by
      obtain ⟨a1, -, -, -, a5⟩ := PTp p hp
      rw [i5]
      have := a5 t ht
      exact ⟨this.1, by omega⟩
    refine lp (σ := Int32) P (fun q v => (v = m1 ∧ ∀ p, p < q → ∃ i, i < j ∧ sg i = p) ∨ ∃ r, r < q ∧ v = nI r ∧ (¬ ∃ i, i < j ∧ sg i = r) ∧ ∀ p, p < q → (¬ ∃ i, i < j ∧ sg i = p) → ¬ clt (Ns p) (fs p) (Ns r) (fs r)) (fun q v => ex_G mX12_sortInto (d + 1) 65 [.ref 168, .int (nI P), .ref a2, .retAddr 0, .retAddr 0, .int (nI (o + qp (fun i => Ns (sg i)) j)), .int (nI j), .int v, .int (nI q)] [] h1 bc bs Q) (s := m1) (Or.inl ⟨rfl, fun p hp => absurd hp (Nat.not_lt_zero p)⟩) ?_ ?_
    · rintro q v hq iv_ nx2
      have e1 : nI q + 1 = nI (q + 1) := nI_add _ 1
      refine X12_sortInto_65 ⟨fun w => by rw [nI_leI (by omega) (by omega)] at w; omega, fun _ => ⟨o168 K1, 206, r168_46 K1, (s206 K1 _).mpr ((ix_nI (by omega)).mpr (by omega)), ?_⟩⟩
      rw [nI_clamp (show q < 2 ^ 31 by omega), e1]
      by_cases ld : ∃ i, i < j ∧ sg i = q
      · have v1 := (S3 q hq).1 ld
        rw [v1]
        refine ⟨fun _ x17 e17 => ?_, fun w => absurd w (by decide)⟩
        rw [e17]
        refine nx2 v ?_
        rcases iv_ with ⟨a, b⟩ | ⟨r, r1, r2, r3, r4⟩
        · refine Or.inl ⟨a, fun p hp => ?_⟩
          by_cases z : p = q
          · rw [z]; exact ld
          · exact b p (by omega)
        · refine Or.inr ⟨r, by omega, r2, r3, fun p hp np => ?_⟩
          by_cases z : p = q
          · rw [z] at np; exact absurd ld np
          · exact r4 p (by omega) np
      · have v0 := (S3 q hq).2 ld
        rw [v0]
        refine ⟨fun w => absurd rfl w, fun _ => ⟨fun vm x19 e19 => ?_, fun vm => ?_⟩⟩
        · rw [e19]
          refine nx2 (nI q) (Or.inr ⟨q, Nat.lt_succ_self _, rfl, ld, fun p hp np => ?_⟩)
          rcases iv_ with ⟨a, b⟩ | ⟨r, r1, r2, r3, r4⟩
          · by_cases z : p = q
            · rw [z]; exact clt_irr ⟨rfl, fun _ _ => rfl⟩
            · exact absurd (b p (by omega)) np
          · rw [r2] at vm
            exact absurd vm (m1_ne (a := r) (by omega))
        · rcases iv_ with ⟨a, b⟩ | ⟨r, r1, r2, r3, r4⟩
          · exact absurd a vm
          · subst r2
            have er : nI r + 1 = nI (r + 1) := nI_add _ 1
            obtain ⟨oq1, oq2⟩ := of_ q hq
            obtain ⟨or1, or2⟩ := of_ r (by omega)
            have obq := ob q hq
            have obr := ob r (by omega)
            have sq : nI (offN Ns q + 4 * Ns q) - nI (offN Ns q) = nI (4 * Ns q) := by rw [pk_sub (by omega), Nat.add_sub_cancel_left]
            have sr : nI (offN Ns r + 4 * Ns r) - nI (offN Ns r) = nI (4 * Ns r) := by rw [pk_sub (by omega), Nat.add_sub_cancel_left]
            refine ⟨205, r168_45 K1, 204, r168_44 K1, (s204 K1 _).mpr ((ix_nI (by omega)).mpr (by omega)), (s204 K1 _).mpr ((ix_nI (by omega)).mpr (by omega)), (s204 K1 _).mpr ((ix_nI (by omega)).mpr (by omega)), ?_⟩
            rw [er, nI_clamp (show q + 1 < 2 ^ 31 by omega), nI_clamp (show r < 2 ^ 31 by omega), nI_clamp (show r + 1 < 2 ^ 31 by omega), oq1, oq2, or1, or2, sq, sr]
            refine ⟨(s204 K1 _).mpr ((ix_nI (by omega)).mpr (by omega)), m_cmp (sp_x K1 205 (by decide) rfl) (sp_x K1 205 (by decide) rfl) (by decide) (by decide) (by omega) (by omega) (by decide) (by decide) (cds q hq) (cds r (by omega)) (fun lt => ⟨_, rfl, fun w => absurd w (by decide), fun _ x30 e30 => ?_⟩) (fun eq => ⟨_, rfl, fun _ x29 e29 => ?_, fun w => absurd (show (0 : Int32) ≤ 0 by decide) w⟩) (fun gt => ⟨_, rfl, fun _ x29 e29 => ?_, fun w => absurd (show (0 : Int32) ≤ 1 by decide) w⟩)⟩
            · rw [e30]
              refine nx2 (nI q) (Or.inr ⟨q, Nat.lt_succ_self _, rfl, ld, fun p hp np => ?_⟩)
              by_cases z : p = q
              · rw [z]; exact clt_irr ⟨rfl, fun _ _ => rfl⟩
              · exact fun l3 => r4 p (by omega) np (clt_trans l3 lt)
            · rw [e29]
              refine nx2 (nI r) (Or.inr ⟨r, by omega, rfl, r3, fun p hp np => ?_⟩)
              by_cases z : p = q
              · rw [z]; exact clt_irr eq
              · exact r4 p (by omega) np
            · rw [e29]
              refine nx2 (nI r) (Or.inr ⟨r, by omega, rfl, r3, fun p hp np => ?_⟩)
              by_cases z : p = q
              · rw [z]; exact fun l3 => clt_irr ⟨rfl, fun _ _ => rfl⟩ (clt_trans l3 gt)
              · exact r4 p (by omega) np
    · rintro v iv_
      rcases iv_ with ⟨-, all⟩ | ⟨r, r1, r2, r3, r4⟩
      · obtain ⟨g, hg⟩ := chs (n := P) (R := fun p i => i < j ∧ sg i = p) all
        have : P ≤ j := php' (f := g) (fun p hp => (hg p hp).1) (fun p p' hpp hp' e => by
          have a := (hg p (by omega)).2
          have b := (hg p' hp').2
          rw [e, b] at a
          omega)
        omega
      · subst r2
        have er : nI r + 1 = nI (r + 1) := nI_add _ 1
        obtain ⟨or1, or2⟩ := of_ r r1
        have obr := ob r r1
        have sr : nI (offN Ns r + 4 * Ns r) - nI (offN Ns r) = nI (4 * Ns r) := by rw [pk_sub (by omega), Nat.add_sub_cancel_left]
        have ns : ∀ i, i < j → sg i ≠ r := fun i hi q => r3 ⟨i, hi, q⟩
        -- room
        have dis : ct (fun x => (∃ i, i < j ∧ cc n m (ys (sg i)) x) ∨ cc n m (ys r) x) n = ct (fun x => ∃ i, i < j ∧ cc n m (ys (sg i)) x) n + ct (cc n m (ys r)) n := ct_orE (fun x hx ⟨i, i1, i2⟩ oo => by
          obtain ⟨y1, y2, y3, -⟩ := hys (sg i) (S1 i i1)
          obtain ⟨z1, z2, z3, -⟩ := hys r r1
          have := c1_u iv y1 y2 z2 (cc_trans i2 ((cc_EQ iv).2.1 _ _ z1 oo))
          rw [this, z3] at y3
          exact ns i i1 y3.symm)
        have ctl2 : ct (fun x => (∃ i, i < j ∧ cc n m (ys (sg i)) x) ∨ cc n m (ys r) x) n ≤ n := ct_le _ _
        have szr := sz r r1
        have rm : qp (fun i => Ns (sg i)) j + 1 + 4 * Ns r ≤ 2 + (j + 1) + 4 * n := by rw [S6, szr]; omega
        refine X12_sortInto_65 ⟨fun _ => ⟨o168 K1, 206, r168_46 K1, (s206 K1 _).mpr ((ix_nI (by omega)).mpr (by omega)), fun h4 e4 => ?_⟩, fun w => absurd ((nI_leI (by omega) (by omega)).mpr (Nat.le_refl _)) w⟩
        rw [nI_clamp (by omega)] at e4
        have F4 : fr [206, a2] h h4 := by rw [e4]; exact fr_si F1 m206
        obtain ⟨K4, j4, j5⟩ := keep h4 F4
        refine ⟨204, r168_44 K4, ?_⟩
        rw [er, nI_clamp (show r + 1 < 2 ^ 31 by omega), nI_clamp (show r < 2 ^ 31 by omega), j4, ← i4, or1, or2, sr]
        refine ⟨(s204 K4 _).mpr ((ix_nI (by omega)).mpr (by omega)), (s204 K4 _).mpr ((ix_nI (by omega)).mpr (by omega)), (st0_x (x2' h4 F4) _).mpr ((ix_nI (by omega)).mpr (by omega)), fun h5 e5 x11 e11 x12 e12 => ?_⟩
        rw [nI_clamp (by omega)] at e5
        have F5 : fr [206, a2] h h5 := by rw [e5]; exact fr_si F4 ma2
        obtain ⟨K5, k4, k5⟩ := keep h5 F5
        have ep : nI (o + qp (fun i => Ns (sg i)) j) + 1 = nI (o + qp (fun i => Ns (sg i)) j + 1 + 0) := nI_add _ 1
        rw [e11, ep, e12, k4, ← i4, or1]
        have T5 : ah_i h5 a2 = u1 (ah_i h1 a2) (o + qp (fun i => Ns (sg i)) j) (-nI (4 * Ns r)) := by rw [e5, i_si_s, e4, i_si_n _ _ _ _ _ (by omega)]
        have L5 : ah_i h5 206 = u1 (ah_i h1 206) r (nI 1) := by rw [e5, i_si_n _ _ _ _ _ (by omega), e4, i_si_s]; rfl
        clear e4 e5 e11 e12
        have z0 : offN Ns r = offN Ns r + 0 := rfl
        rw [z0]
        refine lp (4 * Ns r) (fun t h' => fr [206, a2] h h' ∧ ah_i h' 206 = ah_i h5 206 ∧ (∀ i, i < o + qp (fun i => Ns (sg i)) j + 1 → ah_i h' a2 i = ah_i h5 a2 i) ∧ ∀ u, u < t → ah_i h' a2 (o + qp (fun i => Ns (sg i)) j + 1 + u) = nI (fs r u)) (fun t h' => ex_G mX12_sortInto (d + 1) 201 [.ref 168, .int (nI P), .ref a2, .retAddr 0, .retAddr 0, .int (nI (o + qp (fun i => Ns (sg i)) j + 1 + t)), .int (nI j), .int (nI r), .int (nI (offN Ns r + t))] [] h' bc bs Q) ⟨F5, rfl, fun _ _ => rfl, fun u hu => absurd hu (Nat.not_lt_zero u)⟩ ?_ ?_
        · rintro t h6 ht ⟨F6, g6, lo6, I6⟩ nx3
          obtain ⟨K6, p4, p5⟩ := keep h6 F6
          have ea : nI (o + qp (fun i => Ns (sg i)) j + 1 + t) + 1 = nI (o + qp (fun i => Ns (sg i)) j + 1 + (t + 1)) := nI_add _ 1
          have eb : nI (offN Ns r + t) + 1 = nI (offN Ns r + (t + 1)) := nI_add _ 1
          refine X12_sortInto_201 ⟨o168 K6, 204, r168_44 K6, ?_⟩
          rw [er, nI_clamp (show r + 1 < 2 ^ 31 by omega), p4, ← i4, or2, nI_leI (by omega) (by omega)]
          refine ⟨(s204 K6 _).mpr ((ix_nI (by omega)).mpr (by omega)), fun w => by omega, fun _ => ⟨205, r168_45 K6, (s205 K6 _).mpr ((ix_nI (by omega)).mpr (by omega)), (st0_x (x2' h6 F6) _).mpr ((ix_nI (by omega)).mpr (by omega)), fun h8_ e8 x10 e10 x11 e11 => ?_⟩⟩
          rw [nI_clamp (by omega), nI_clamp (by omega), p5, ← i5, (cds r r1 t ht).1] at e8
          rw [e10, e11, ea, eb]
          refine nx3 h8_ ⟨by rw [e8]; exact fr_si F6 ma2, by rw [e8, i_si_n _ _ _ _ _ (by omega)]; exact g6, fun i hi => ?_, fun u hu => ?_⟩
          · rw [e8, i_si_s, u1_n _ _ (by omega)]; exact lo6 i hi
          · rw [e8, i_si_s]
            by_cases z : u = t
            · rw [z, u1_s]
            · rw [u1_n _ _ (by omega)]; exact I6 u (by omega)
        · rintro h6 ⟨F6, g6, lo6, I6⟩
          obtain ⟨K6, p4, p5⟩ := keep h6 F6
          have ej : nI j + 1 = nI (j + 1) := nI_add _ 1
          refine X12_sortInto_201 ⟨o168 K6, 204, r168_44 K6, ?_⟩
          rw [er, nI_clamp (show r + 1 < 2 ^ 31 by omega), p4, ← i4, or2, nI_leI (by omega) (by omega), ej]
          refine ⟨(s204 K6 _).mpr ((ix_nI (by omega)).mpr (by omega)), fun _ x5 e5 => ?_, fun w => absurd (Nat.le_refl _) w⟩
          rw [e5]
          have so : ∀ i, i < j → u1 sg j r i = sg i := fun i hi => u1_n _ _ (by omega)
          have qo : ∀ i, i ≤ j → qp (fun i => Ns (u1 sg j r i)) i = qp (fun i => Ns (sg i)) i := fun i hi => qp_congr i (fun i' hi' => by show Ns (u1 sg j r i') = Ns (sg i'); rw [so i' (by omega)])
          have qn : qp (fun i => Ns (u1 sg j r i)) (j + 1) = qp (fun i => Ns (sg i)) j + 1 + 4 * Ns r := by
            rw [qp_s, qo j (Nat.le_refl _)]
            show _ + 1 + 4 * Ns (u1 sg j r j) = _
            rw [u1_s]
          have st := nx (h6, u1 sg j r)
          have st : _ → ex_G mX12_sortInto (d + 1) 53 [.ref 168, .int (nI P), .ref a2, .retAddr 0, .retAddr 0, .int (nI (o + qp (fun i => Ns (u1 sg j r i)) (j + 1))), .int (nI (j + 1)), .retAddr 0, .retAddr 0] [] h6 bc bs Q := st
          rw [qn, ← Nat.add_assoc, ← Nat.add_assoc] at st
          have lo : ∀ i, i < o + qp (fun i => Ns (sg i)) j → ah_i h6 a2 i = ah_i h1 a2 i := fun i hi => by rw [lo6 i (by omega), T5, u1_n _ _ (by omega)]
          have q2 := qp_2 (fun i => Ns (sg i)) j
          refine st ⟨F6, fun i hi => ?_, fun i i' hii hi' => ?_, fun p hp => ⟨fun ⟨i, hi, e⟩ => ?_, fun no => ?_⟩, ⟨?_, ?_, fun i hi => ?_, fun i hi => ?_⟩, fun i hi p hp np => ?_, ?_⟩
          · show u1 sg j r i < P
            by_cases z : i = j
            · rw [z, u1_s]; exact r1
            · rw [so i (by omega)]; exact S1 i (by omega)
          · show u1 sg j r i ≠ u1 sg j r i'
            by_cases z : i' = j
            · rw [z, u1_s, so i (by omega)]; exact ns i (by omega)
            · rw [so i (by omega), so i' (by omega)]; exact S2 i i' hii (by omega)
          · have e : u1 sg j r i = p := e
            show ah_i h6 206 p = nI 1
            rw [g6, L5]
            by_cases z : p = r
            · rw [z, u1_s]
            · rw [u1_n _ _ z]
              by_cases z2 : i = j
              · rw [z2, u1_s] at e
                exact absurd e.symm z
              · rw [so i (by omega)] at e
                exact (S3 p hp).1 ⟨i, by omega, e⟩
          · show ah_i h6 206 p = nI 0
            rw [g6, L5, u1_n _ _ (fun z => no ⟨j, Nat.lt_succ_self _, by show u1 sg j r j = p; rw [u1_s, z]⟩)]
            exact (S3 p hp).2 (fun ⟨i, hi, e⟩ => no ⟨i, by omega, by show u1 sg j r i = p; rw [so i hi]; exact e⟩)
          · show ah_i h6 a2 o = nI l
            rw [lo _ (by omega)]; exact W1
          · show ah_i h6 a2 (o + 1) = nI n
            rw [lo _ (by omega)]; exact W2
          · show ah_i h6 a2 i = ah_i h a2 i
            rw [lo _ (by omega)]; exact W3 i hi
          · show ah_i h6 a2 (o + qp (fun i => Ns (u1 sg j r i)) i) = -nI (4 * Ns (u1 sg j r i)) ∧ ∀ t, t < 4 * Ns (u1 sg j r i) → ah_i h6 a2 (o + qp (fun i => Ns (u1 sg j r i)) i + 1 + t) = nI (fs (u1 sg j r i) t)
            rw [qo i (by omega)]
            by_cases z : i = j
            · rw [z, u1_s]
              refine ⟨by rw [lo6 _ (by omega), T5, u1_s], fun t ht => I6 t ht⟩
            · rw [so i (by omega)]
              obtain ⟨w1, w2⟩ := W4 i (by omega)
              have mo := qp_mono (Nk := fun i => Ns (sg i)) (show i + 1 ≤ j by omega)
              rw [qp_s] at mo
              have mo : qp (fun i => Ns (sg i)) i + 1 + 4 * Ns (sg i) ≤ qp (fun i => Ns (sg i)) j := mo
              exact ⟨by rw [lo _ (by omega)]; exact w1, fun t ht => by rw [lo _ (by omega)]; exact w2 t ht⟩
          · show ¬ clt (Ns p) (fs p) (Ns (u1 sg j r i)) (fs (u1 sg j r i))
            have np : ∀ i', i' < i → u1 sg j r i' ≠ p := np
            by_cases z : i = j
            · rw [z, u1_s]
              refine r4 p hp (fun ⟨i', hi', e⟩ => np i' (by omega) ?_)
              rw [so i' hi']
              exact e
            · rw [so i (by omega)]
              refine S5 i (by omega) p hp (fun i' hi' e => np i' hi' ?_)
              rw [so i' (by omega)]
              exact e
          · show qp (fun i => Ns (sg i)) j + 1 + 4 * Ns r = 2 + j + 1 + 4 * ct (fun x => ∃ i, i < j + 1 ∧ cc n m (ys (u1 sg j r i)) x) n
            have : ct (fun x => ∃ i, i < j + 1 ∧ cc n m (ys (u1 sg j r i)) x) n = ct (fun x => (∃ i, i < j ∧ cc n m (ys (sg i)) x) ∨ cc n m (ys r) x) n := ct_congr (fun x _ => ⟨fun ⟨i, hi, e⟩ => by
              by_cases z : i = j
              · rw [z, u1_s] at e; exact Or.inr e
              · rw [so i (by omega)] at e; exact Or.inl ⟨i, by omega, e⟩, fun w => by
              rcases w with ⟨i, hi, e⟩ | e
              · exact ⟨i, by omega, by rw [so i hi]; exact e⟩
              · exact ⟨j, Nat.lt_succ_self _, by rw [u1_s]; exact e⟩⟩)
            rw [this, dis, S6, szr]
            omega
  · rintro ⟨h1, sg⟩ ⟨F1, S1, S2, S3, ⟨W1, W2, W3, W4⟩, S5, S6⟩
    have F1 : fr [206, a2] h h1 := F1
    have S1 : ∀ i, i < P → sg i < P := S1
    have S2 : ∀ i i', i < i' → i' < P → sg i ≠ sg i' := S2
    have S5 : ∀ i, i < P → ∀ p, p < P → (∀ i', i' < i → sg i' ≠ p) → ¬ clt (Ns p) (fs p) (Ns (sg i)) (fs (sg i)) := S5
    have S6 : qp (fun i => Ns (sg i)) P = 2 + P + 4 * ct (fun x => ∃ i, i < P ∧ cc n m (ys (sg i)) x) n := S6
    have ctl : ct (fun x => ∃ i, i < P ∧ cc n m (ys (sg i)) x) n ≤ n := ct_le _ _
    have onto : ∀ p, p < P → ∃ i, i < P ∧ sg i = p := fun p hp => Classical.byContradiction (fun no => by
      obtain ⟨i, j, hij, hj, q⟩ := php P (fun i => if i < P then sg i else p) (fun i hi => by
        show (if i < P then sg i else p) < P
        by_cases z : i < P
        · rw [if_pos z]; exact S1 i z
        · rw [if_neg z]; exact hp)
      have q : (if i < P then sg i else p) = if j < P then sg j else p := q
      rw [if_pos (by omega)] at q
      by_cases z : j < P
      · rw [if_pos z] at q
        exact S2 i j hij z q
      · rw [if_neg z] at q
        exact no ⟨i, by omega, q⟩)
    obtain ⟨tau, ht⟩ := chs (n := P) (R := fun p i => i < P ∧ sg i = p) onto
    have inj : ∀ i j, i < P → j < P → sg i = sg j → i = j := fun i j hi hj e => by
      rcases Nat.lt_trichotomy i j with z | z | z
      · exact absurd e (S2 i j z hj)
      · exact z
      · exact absurd e.symm (S2 j i z hi)
    show ex_G mX12_sortInto (d + 1) 53 [.ref 168, .int (nI P), .ref a2, .retAddr 0, .retAddr 0, .int (nI (o + qp (fun i => Ns (sg i)) P)), .int (nI P), .retAddr 0, .retAddr 0] [] h1 bc bs Q
    refine X12_sortInto_53 ⟨fun _ => ⟨(st0_x (x2' h1 F1) _).mpr ((ix_nI (by omega)).mpr (by omega)), fun h2 e2 => ?_⟩, fun w => absurd ((nI_leI (by omega) (by omega)).mpr (Nat.le_refl _)) w⟩
    rw [nI_clamp (by omega)] at e2
    have g2 : ah_i h2 a2 = u1 (ah_i h1 a2) (o + qp (fun i => Ns (sg i)) P) (-999) := by rw [e2, i_si_s]
    have lo : ∀ i, i < o + qp (fun i => Ns (sg i)) P → ah_i h2 a2 i = ah_i h1 a2 i := fun i hi => by rw [g2, u1_n _ _ (by omega)]
    have q2 := qp_2 (fun i => Ns (sg i)) P
    have bd : ∀ p, p < P → 0 < Ns p ∧ Ns p ≤ n ∧ ∀ t, t < 4 * Ns p → fs p t < 4 * Ns p := fun p hp => by
      obtain ⟨a1, -, -, -, a5⟩ := PTp p hp
      exact ⟨a1.1, a1.2, fun t ht => (a5 t ht).2⟩
    refine k h2 P (fun i => Ns (sg i)) (fun i => fs (sg i)) (by rw [e2]; exact fr_si F1 ma2) ⟨fun i j hij hj => S5 i (by omega) (sg j) (S1 j hj) (fun i' hi' e => ?_), fun N f => ?_, fun j hj => bd _ (S1 j hj)⟩ ⟨h9, h40, fun j hj => ?_⟩ ⟨by rw [lo _ (by omega)]; exact W1, by rw [lo _ (by omega)]; exact W2, fun j hj => ?_, by rw [g2, u1_s]; rfl⟩ (by omega) (fun i hi => by rw [lo _ (by omega)]; exact W3 i hi)
    · exact S2 i' j (by omega) hj e
    · have c1e : ct (fun j => ceq (Ns (sg j)) (fs (sg j)) N f) P = ct (fun p => ceq (Ns p) (fs p) N f) P := Nat.le_antisymm (ct_inj_le sg (fun i hi q => ⟨S1 i hi, q⟩) (fun i j hi hj _ _ e => inj i j hi hj e)) (ct_inj_le tau (fun p hp q => ⟨(ht p hp).1, by rw [(ht p hp).2]; exact q⟩) (fun p p' hp hp' _ _ e => by rw [← (ht p hp).2, ← (ht p' hp').2, e]))
      have conv : ∀ p, p < P → (ceq (Ns p) (fs p) N f ↔ PCd n m (ys p) N f) := fun p hp => by
        obtain ⟨y1, y2, y3, y4⟩ := hys p hp
        constructor
        · rintro ⟨q1, q2⟩
          have := PCd_congr y4 q2
          rw [q1] at this
          exact this
        · intro q
          exact PCd_u y4 q
      show ct (fun j => ceq (Ns (sg j)) (fs (sg j)) N f) P = _
      rw [c1e]
      refine Nat.le_antisymm ?_ ?_
      · exact ct_inj_le2 ys (fun p hp q => ⟨(hys p hp).1, (hys p hp).2.1, (conv p hp).mp q⟩) (fun p p' hp hp' _ _ e => by rw [← (hys p hp).2.2.1, ← (hys p' hp').2.2.1, e])
      · refine ct_inj_le2 (ct (c1 n m)) (fun c hc ⟨q1, q2⟩ => ?_) (fun c c' hc hc' pc pc' e => ct_inj pc.1 pc'.1 e)
        have lt : ct (c1 n m) c < P := by rw [← hP]; exact ct_lt hc q1
        refine ⟨lt, (conv _ lt).mpr ?_⟩
        obtain ⟨y1, y2, y3, y4⟩ := hys _ lt
        rw [ct_inj y2 q1 y3]
        exact q2
    · obtain ⟨a1, a2_, a3⟩ := bd _ (S1 j hj)
      show 0 < Ns (sg j) ∧ Ns (sg j) ≤ 40 ∧ ∀ t, t < 4 * Ns (sg j) → fs (sg j) t < 160
      exact ⟨a1, by omega, fun t ht => by have := a3 t ht; omega⟩
    · have W4' : ∀ i, i < P → ah_i h1 a2 (o + qp (fun i => Ns (sg i)) i) = -nI (4 * Ns (sg i)) ∧ ∀ t, t < 4 * Ns (sg i) → ah_i h1 a2 (o + qp (fun i => Ns (sg i)) i + 1 + t) = nI (fs (sg i) t) := W4
      obtain ⟨w1, w2⟩ := W4' j hj
      show ah_i h2 a2 (o + qp (fun i => Ns (sg i)) j) = -nI (4 * Ns (sg j)) ∧ ∀ t, t < 4 * Ns (sg j) → ah_i h2 a2 (o + qp (fun i => Ns (sg i)) j + 1 + t) = nI (fs (sg j) t)
      have mo := qp_mono (Nk := fun i => Ns (sg i)) (show j + 1 ≤ P by omega)
      rw [qp_s] at mo
      have mo : qp (fun i => Ns (sg i)) j + 1 + 4 * Ns (sg j) ≤ qp (fun i => Ns (sg i)) P := mo
      exact ⟨by rw [lo _ (by omega)]; exact w1, fun t ht => by rw [lo _ (by omega)]; exact w2 t ht⟩
end MSORT
