/-! The reference finds the codes of all parts: the loops. -/
section MCODE2
variable {h : AH} {d bc bs : Nat} {Q : Option Value → AH → Prop}
theorem c1_u {n : Nat} {m : Nat → Nat} (iv : IV n m) {a b : Nat} (ha : a < n) (x : c1 n m a) (y : c1 n m b) (o : cc n m a b) : a = b := Nat.le_antisymm (x b o) (y a ((cc_EQ iv).2.1 _ _ ha o))
/-- all crossings of the part of c -/
theorem m_dloop {s n c a2 : Nat} {m : Nat → Nat} {at_ v4 v5 : Int32} (K : sp h) (iv : IV n m) (h40 : n ≤ 40) (hs : s < 368) (hn : ah_i h 170 s = nI n) (hm : ∀ e, e < 4 * n → ah_i h 176 e = nI (m e)) (hg : ∀ x, x < n → ∃ g, g ≤ x ∧ cc n m x g ∧ c1 n m g ∧ ah_i h 177 x = nI g) (hc : c < n) (lc : c1 n m c)
    (k : ∀ h' N f, fr cdR h h' → 0 < N → N ≤ n → PCd n m c N f → N = ct (cc n m c) n → (∀ t, t < 4 * N → ah_i h' 203 t = nI (f t) ∧ f t < 4 * N) → ex_G mX12_codeInto (d + 2) 46 [.ref 168, .int (nI s), .ref a2, .int at_, .int v4, .int v5, .int (nI c), .int (nI (4 * N)), .int (nI n), .retAddr 0, .retAddr 0, .retAddr 0] [] h' bc bs Q) : ex_G mX12_codeInto (d + 2) 46 [.ref 168, .int (nI s), .ref a2, .int at_, .int v4, .int v5, .int (nI c), .int (nI 0), .int (nI c), .retAddr 0, .retAddr 0, .retAddr 0] [] h bc bs Q := by
  refine lpf (σ := AH × Nat) c n (fun e z => fr cdR h z.1 ∧ z.2 ≤ 160 ∧ BST n m c z.1 z.2 (fun d' b' => c ≤ d' ∧ d' < e ∧ cc n m c d' ∧ (b' = 0 ∨ b' = 2))) (fun e z => ex_G mX12_codeInto (d + 2) 46 [.ref 168, .int (nI s), .ref a2, .int at_, .int v4, .int v5, .int (nI c), .int (nI z.2), .int (nI e), .retAddr 0, .retAddr 0, .retAddr 0] [] z.1 bc bs Q) (s := (h, 0)) (by omega) ⟨fr_refl _ h, Nat.zero_le _, Or.inl ⟨rfl, fun d' b' w => by omega⟩⟩ ?_ ?_
  · rintro e ⟨h1, z⟩ ce he ⟨F1, zl, B1⟩ nx
    have F1 : fr cdR h h1 := F1
    have zl : z ≤ 160 := zl
    have B1 : BST n m c h1 z (fun d' b' => c ≤ d' ∧ d' < e ∧ cc n m c d' ∧ (b' = 0 ∨ b' = 2)) := B1
    have K1 := sp_fr K F1
    have n1 : ah_i h1 170 s = nI n := by rw [fr_i F1 170 (by decide)]; exact hn
    have e1 : nI e + 1 = nI (e + 1) := nI_add _ 1
    obtain ⟨g, g1, g2, g3, g4⟩ := hg e he
    have v7 : ah_i h1 177 e = nI g := by rw [fr_i F1 177 (by decide)]; exact g4
    have iff_ : g = c ↔ cc n m c e := ⟨fun q => by rw [← q]; exact (cc_EQ iv).2.1 _ _ he g2, fun q => c1_u iv (by omega) g3 lc ((cc_EQ iv).2.1 _ _ hc (cc_trans q g2))⟩
    refine X12_codeInto_46 ⟨o168 K1, 170, r168_2 K1, (s170 K1 _).mpr ((ix_nI (by omega)).mpr (by omega)), ?_⟩
    rw [nI_clamp (show s < 2 ^ 31 by omega), n1, nI_leI (by omega) (by omega)]
    refine ⟨fun w => by omega, fun _ => ⟨177, r168_11 K1, (s177 K1 _).mpr ((ix_nI (by omega)).mpr (by omega)), ?_⟩⟩
    rw [nI_clamp (show e < 2 ^ 31 by omega), v7, nI_eq (by omega) (by omega), iff_]
    refine ⟨fun no x12 e12 => ?_, fun o => ?_⟩
    · rw [e12, e1]
      refine nx (h1, z) ⟨F1, zl, BST_congr B1 (fun d' b' a1 a2 => ⟨fun w => ⟨w.1, by omega, w.2.2⟩, fun w => ⟨w.1, ?_, w.2.2⟩⟩) rfl (fun w d' b' q => ?_)⟩
      · by_cases q : d' = e
        · rw [q] at a1; exact absurd a1 no
        · omega
      · by_cases q2 : d' = e
        · rw [q2] at q; exact no q.2.2.1
        · exact w d' b' ⟨q.1, by omega, q.2.2⟩
    · have tr : ∀ h', fr cdR h h' → sp h' ∧ ah_i h' 170 s = nI n ∧ ∀ e, e < 4 * n → ah_i h' 176 e = nI (m e) := fun h' F' => ⟨sp_fr K F', by rw [fr_i F' 170 (by decide)]; exact hn, fun e he => by rw [fr_i F' 176 (by decide)]; exact hm e he⟩
      refine m_root (i := 0) K1 iv h40 hs n1 (tr h1 F1).2.2 hc o (by decide) zl B1 (fun h2 z2 F2 zl2 B2 => ?_)
      have F2' : fr cdR h h2 := fr_trans F1 F2
      obtain ⟨K2, n2, m2⟩ := tr h2 F2'
      refine m_root (i := 1) K2 iv h40 hs n2 m2 hc o (by decide) zl2 B2 (fun h3 z3 F3 zl3 B3 => ?_)
      refine X12_codeInto_72 ⟨fun _ x2 e2 => ?_, fun w => absurd (show (4 : Int32) ≤ nI (2 * (1 + 1)) by decide) w⟩
      rw [e2, e1]
      refine nx (h3, z3) ⟨fr_trans F2' F3, zl3, BST_congr B3 (fun d' b' a1 a2 => ⟨fun w => ?_, fun w => ?_⟩) rfl (fun w d' b' q => ?_)⟩
      · rcases w with (w | ⟨w1, w2⟩) | ⟨w1, w2⟩
        · exact ⟨w.1, by omega, w.2.2⟩
        · exact ⟨by omega, by omega, a1, a2⟩
        · exact ⟨by omega, by omega, a1, a2⟩
      · by_cases q : d' = e
        · rcases a2 with a2 | a2
          · exact Or.inl (Or.inr ⟨q, a2⟩)
          · exact Or.inr ⟨q, a2⟩
        · exact Or.inl (Or.inl ⟨w.1, by omega, w.2.2⟩)
      · exact absurd (Or.inr ⟨rfl, rfl⟩) (w e (2 * 1))
  · rintro ⟨h1, z⟩ ⟨F1, zl, B1⟩
    rcases B1 with ⟨z0, no⟩ | ⟨N, f, d1, b1, h0, h1_, h2, h3, h4, h5, h6, h7, h8⟩
    · exact absurd ⟨Nat.le_refl _, hc, cc_refl _, Or.inl rfl⟩ (no c 0)
    · have h0 : z = 4 * N := h0
      subst h0
      refine k h1 N f F1 h1_ h2 ⟨⟨d1, b1, h4, h5, h6⟩, fun d' b' N' f' a1 a2 a3 => h8 d' b' N' f' ⟨lc d' a1, cc_lt' iv hc a1, a1, a2⟩ a1 a2 a3⟩ ?_ h7
      rw [WC_size iv (cc_lt' iv hc h4) h5 h6]
      exact ct_congr (fun x _ => ⟨fun q => cc_trans h4 q, fun q => cc_trans ((cc_EQ iv).2.1 _ _ hc h4) q⟩)
theorem m_codeParts {s n a2 : Nat} {A m : Nat → Nat} {at_ : Int32} (K : sp h) (P : Pr n A m) (h40 : n ≤ 40) (hs : s < 368) (hn : ah_i h 170 s = nI n) (hm : ∀ e, e < 4 * n → ah_i h 176 e = nI (m e))
    (k : ∀ h' Ns fs, fr cdL h h' → PT n m h' n Ns fs → ex_S yX12_sortInto mX12_sortInto (d + 1) [.ref 168, .int (nI (ct (c1 n m) n)), .ref a2, .int at_, .int (nI s)] h' 0 0 (fun r h5 => r = none ∧ Q none h5)) : ex_S yX12_codeInto mX12_codeInto (d + 2) [.ref 168, .int (nI s), .ref a2, .int at_] h bc bs Q := by
  have iv := P.iv
  refine X12_codeInto_e (X12_codeInto_0 ⟨o168 K, m_partsOf K hs hn h40 hm P (fun h1 F1 G1 => ⟨_, rfl, ?_⟩)⟩)
  have F1' : fr cdL h h1 := fr_mono F1 (by decide)
  refine lp (σ := AH × ((Nat → Nat) × (Nat → Nat → Nat))) n (fun c z => fr cdL h z.1 ∧ ah_i z.1 177 = ah_i h1 177 ∧ PT n m z.1 c z.2.1 z.2.2) (fun c z => ex_G mX12_codeInto (d + 2) 16 [.ref 168, .int (nI s), .ref a2, .int at_, .int (nI (ct (c1 n m) c)), .int (nI (offN z.2.1 (ct (c1 n m) c))), .int (nI c), .retAddr 0, .retAddr 0, .retAddr 0, .retAddr 0, .retAddr 0] [] z.1 bc bs Q) (s := (h1, (fun _ => 0), fun _ _ => 0)) ⟨F1', rfl, ?_, fun p hp => absurd hp (Nat.not_lt_zero p)⟩ ?_ ?_
  · show 0 = 4 * ct (fun x => ∃ y, y < 0 ∧ c1 n m y ∧ cc n m y x) n
    rw [ct_none (fun i _ ⟨y, hy, _⟩ => absurd hy (Nat.not_lt_zero y))]
  · rintro c ⟨h2, Ns, fs⟩ hc ⟨F2, g2, T2⟩ nx
    have F2 : fr cdL h h2 := F2
    have g2 : ah_i h2 177 = ah_i h1 177 := g2
    have T2 : PT n m h2 c Ns fs := T2
    have K2 := sp_fr K F2
    have n2 : ah_i h2 170 s = nI n := by rw [fr_i F2 170 (by decide)]; exact hn
    have hg : ∀ x, x < n → ∃ g, g ≤ x ∧ cc n m x g ∧ c1 n m g ∧ ah_i h2 177 x = nI g := fun x hx => by rw [g2]; exact G1 x hx
    have e1 : nI c + 1 = nI (c + 1) := nI_add _ 1
    obtain ⟨g, q1, q2, q3, q4⟩ := hg c hc
    have iff_ : g = c ↔ c1 n m c := ⟨fun q => by rw [← q]; exact q3, fun q => (c1_u iv hc q q3 q2).symm⟩
    have pa : ct (c1 n m) c ≤ c := ct_le _ _
    refine X12_codeInto_16 ⟨o168 K2, 170, r168_2 K2, (s170 K2 _).mpr ((ix_nI (by omega)).mpr (by omega)), ?_⟩
    rw [nI_clamp (show s < 2 ^ 31 by omega), n2, nI_leI (by omega) (by omega)]
    refine ⟨fun w => by omega, fun _ => ⟨177, r168_11 K2, (s177 K2 _).mpr ((ix_nI (by omega)).mpr (by omega)), ?_⟩⟩
    rw [nI_clamp (show c < 2 ^ 31 by omega), q4, nI_eq (by omega) (by omega), iff_]
    refine ⟨fun no x9 e9 => ?_, fun yes => ?_⟩
    · rw [e9, e1]
      have st := nx (h2, Ns, fs)
      rw [ct_n no] at st
      refine st ⟨F2, g2, ?_⟩
      unfold PT at T2 ⊢
      rw [ct_n no]
      refine ⟨T2.1.trans ?_, fun p hp => ?_⟩
      · congr 1
        refine ct_congr (fun x _ => ⟨fun ⟨y, a, b⟩ => ⟨y, by omega, b⟩, fun ⟨y, a, b, e⟩ => ⟨y, ?_, b, e⟩⟩)
        by_cases z : y = c
        · rw [z] at b; exact absurd b no
        · omega
      · obtain ⟨a1, ⟨y, y1, y2⟩, a3⟩ := T2.2 p hp
        exact ⟨a1, ⟨y, by omega, y2⟩, a3⟩
    · refine m_dloop K2 iv h40 hs n2 (fun e he => by rw [fr_i F2 176 (by decide)]; exact hm e he) hg hc yes (fun h3 N f F3 N0 Nn pc sz B3 => ?_)
      have F3' : fr cdL h h3 := fr_trans F2 (fr_mono F3 (by decide))
      have K3 := sp_fr K F3'
      have n3 : ah_i h3 170 s = nI n := by rw [fr_i F3' 170 (by decide)]; exact hn
      have i204 : ah_i h3 204 = ah_i h2 204 := fr_i F3 204 (by decide)
      have i205 : ah_i h3 205 = ah_i h2 205 := fr_i F3 205 (by decide)
      have i177 : ah_i h3 177 = ah_i h1 177 := by rw [fr_i F3 177 (by decide)]; exact g2
      -- how much room there is
      have dis : ct (fun x => (∃ y, y < c ∧ c1 n m y ∧ cc n m y x) ∨ cc n m c x) n = ct (fun x => ∃ y, y < c ∧ c1 n m y ∧ cc n m y x) n + ct (cc n m c) n := ct_orE (fun x hx ⟨y, y1, y2, y3⟩ o => by
        have := c1_u iv (by omega) y2 yes (cc_trans y3 ((cc_EQ iv).2.1 _ _ hc o))
        omega)
      have room : ct (fun x => (∃ y, y < c ∧ c1 n m y ∧ cc n m y x) ∨ cc n m c x) n ≤ n := ct_le _ _
      have off4 := T2.1
      have offb : offN Ns (ct (c1 n m) c) + 4 * N ≤ 160 := by rw [off4, sz]; omega
      have ea : nI (ct (c1 n m) c) + 1 = nI (ct (c1 n m) c + 1) := nI_add _ 1
      refine X12_codeInto_46 ⟨o168 K3, 170, r168_2 K3, (s170 K3 _).mpr ((ix_nI (by omega)).mpr (by omega)), ?_⟩
      rw [nI_clamp (show s < 2 ^ 31 by omega), n3, nI_leI (by omega) (by omega)]
      refine ⟨fun _ => ⟨204, r168_44 K3, (t204 K3 _).mpr ((ix_nI (by omega)).mpr (by omega)), fun h6 e6 x8 e8 => ?_⟩, fun w => absurd (Nat.le_refl _) w⟩
      rw [nI_clamp (by omega)] at e6
      rw [e8, ea]
      have F6 : fr cdL h h6 := by rw [e6]; exact fr_si F3' (by decide)
      have b6 : ah_i h6 203 = ah_i h3 203 := by rw [e6, i_si_n _ _ _ _ _ (by decide)]
      have a6 : ah_i h6 204 = u1 (ah_i h2 204) (ct (c1 n m) c) (nI (offN Ns (ct (c1 n m) c))) := by rw [e6, i_si_s, i204]
      have d6 : ah_i h6 205 = ah_i h2 205 := by rw [e6, i_si_n _ _ _ _ _ (by decide), i205]
      have g6 : ah_i h6 177 = ah_i h1 177 := by rw [e6, i_si_n _ _ _ _ _ (by decide), i177]
      clear e6
      refine lp (4 * N) (fun j h' => fr cdL h h' ∧ ah_i h' 203 = ah_i h3 203 ∧ ah_i h' 204 = ah_i h6 204 ∧ ah_i h' 177 = ah_i h1 177 ∧ (∀ t, t < offN Ns (ct (c1 n m) c) → ah_i h' 205 t = ah_i h2 205 t) ∧ ∀ t, t < j → ah_i h' 205 (offN Ns (ct (c1 n m) c) + t) = nI (f t)) (fun j h' => ex_G mX12_codeInto (d + 2) 177 [.ref 168, .int (nI s), .ref a2, .int at_, .int (nI (ct (c1 n m) c + 1)), .int (nI (offN Ns (ct (c1 n m) c))), .int (nI c), .int (nI (4 * N)), .int (nI j), .retAddr 0, .retAddr 0, .retAddr 0] [] h' bc bs Q) ⟨F6, b6, rfl, g6, fun t _ => by rw [d6], fun t ht => absurd ht (Nat.not_lt_zero t)⟩ ?_ ?_
      · rintro j h7 hj ⟨F7, b7, a7, g7, o7_, I7⟩ nx2
        have K7 := sp_fr K F7
        have ej : nI j + 1 = nI (j + 1) := nI_add _ 1
        refine X12_codeInto_177 ⟨fun w => by rw [nI_leI (by omega) (by omega)] at w; omega, fun _ => ⟨o168 K7, 205, r168_45 K7, 203, r168_43 K7, (s203 K7 _).mpr ((ix_nI (by omega)).mpr (by omega)), ?_⟩⟩
        rw [nI_add, nI_clamp (show offN Ns (ct (c1 n m) c) + j < 2 ^ 31 by omega), nI_clamp (show j < 2 ^ 31 by omega), b7, (B3 j hj).1, ej]
        refine ⟨(t205 K7 _).mpr ((ix_nI (by omega)).mpr (by omega)), fun h12 e12 x14 e14 => ?_⟩
        rw [e14]
        refine nx2 h12 ⟨by rw [e12]; exact fr_si F7 (by decide), by rw [e12, i_si_n _ _ _ _ _ (by decide)]; exact b7, by rw [e12, i_si_n _ _ _ _ _ (by decide)]; exact a7, by rw [e12, i_si_n _ _ _ _ _ (by decide)]; exact g7, fun t ht => ?_, fun t ht => ?_⟩
        · rw [e12, i_si_s, u1_n _ _ (by omega)]; exact o7_ t ht
        · rw [e12, i_si_s]
          by_cases z : t = j
          · rw [z, u1_s]
          · rw [u1_n _ _ (by omega)]; exact I7 t (by omega)
      · rintro h7 ⟨F7, b7, a7, g7, o7_, I7⟩
        have K7 := sp_fr K F7
        refine X12_codeInto_177 ⟨fun _ x2 e2 => ⟨o168 K7, 204, r168_44 K7, (t204 K7 _).mpr ((ix_nI (by omega)).mpr (by omega)), fun h8 e8 x7 e7 => ?_⟩, fun w => absurd ((nI_leI (by omega) (by omega)).mpr (Nat.le_refl _)) w⟩
        rw [nI_add] at e2
        rw [nI_clamp (by omega), e2] at e8
        rw [e7, e1, e2]
        have st := nx (h8, u1 Ns (ct (c1 n m) c) N, u1 fs (ct (c1 n m) c) f)
        have old : ∀ i, i < ct (c1 n m) c → u1 Ns (ct (c1 n m) c) N i = Ns i := fun i hi => u1_n _ _ (by omega)
        have oo : ∀ p, p ≤ ct (c1 n m) c → offN (u1 Ns (ct (c1 n m) c) N) p = offN Ns p := fun p hp => offN_congr p (fun i hi => old i (by omega))
        have on_ : offN (u1 Ns (ct (c1 n m) c) N) (ct (c1 n m) c + 1) = offN Ns (ct (c1 n m) c) + 4 * N := by rw [offN_s, oo _ (Nat.le_refl _), u1_s]
        rw [ct_y yes] at st
        have st : fr cdL h h8 ∧ ah_i h8 177 = ah_i h1 177 ∧ PT n m h8 (c + 1) (u1 Ns (ct (c1 n m) c) N) (u1 fs (ct (c1 n m) c) f) → ex_G mX12_codeInto (d + 2) 16 [.ref 168, .int (nI s), .ref a2, .int at_, .int (nI (ct (c1 n m) c + 1)), .int (nI (offN (u1 Ns (ct (c1 n m) c) N) (ct (c1 n m) c + 1))), .int (nI (c + 1)), .retAddr 0, .retAddr 0, .retAddr 0, .retAddr 0, .retAddr 0] [] h8 bc bs Q := st
        rw [on_] at st
        have a8 : ah_i h8 204 = u1 (u1 (ah_i h2 204) (ct (c1 n m) c) (nI (offN Ns (ct (c1 n m) c)))) (ct (c1 n m) c + 1) (nI (offN Ns (ct (c1 n m) c) + 4 * N)) := by rw [e8, i_si_s, a7, a6]
        have d8 : ah_i h8 205 = ah_i h7 205 := by rw [e8, i_si_n _ _ _ _ _ (by decide)]
        refine st ⟨by rw [e8]; exact fr_si F7 (by decide), by rw [e8, i_si_n _ _ _ _ _ (by decide)]; exact g7, ?_⟩
        unfold PT
        rw [ct_y yes]
        refine ⟨?_, fun p hp => ?_⟩
        · rw [on_, off4, sz, ← Nat.mul_add, ← dis]
          congr 1
          refine ct_congr (fun x _ => ⟨fun w => ?_, fun ⟨y, y1, y2, y3⟩ => ?_⟩)
          · rcases w with ⟨y, y1, y2⟩ | w
            · exact ⟨y, by omega, y2⟩
            · exact ⟨c, Nat.lt_succ_self _, yes, w⟩
          · by_cases z : y = c
            · rw [z] at y3; exact Or.inr y3
            · exact Or.inl ⟨y, by omega, y2, y3⟩
        · by_cases z : p = ct (c1 n m) c
          · rw [z, on_, oo _ (Nat.le_refl _), u1_s, u1_s, a8, u1_n _ _ (by omega), u1_s, u1_s, d8]
            exact ⟨⟨N0, Nn⟩, ⟨c, Nat.lt_succ_self _, yes, rfl, pc⟩, rfl, rfl, fun t ht => ⟨I7 t ht, (B3 t ht).2⟩⟩
          · have hp' : p < ct (c1 n m) c := by omega
            obtain ⟨a1, ⟨y, y1, y2⟩, a3, a4, a5⟩ := T2.2 p hp'
            have mo := offN_mono (Ns := Ns) (show p + 1 ≤ ct (c1 n m) c by omega)
            rw [offN_s] at mo
            rw [oo p (by omega), oo (p + 1) (by omega), old p hp', u1_n _ _ z, a8, u1_n _ _ (show p ≠ _ by omega), u1_n _ _ (show p ≠ _ by omega), u1_n _ _ (show p + 1 ≠ _ by omega), d8]
            refine ⟨a1, ⟨y, by omega, y2⟩, a3, ?_, fun t ht => ⟨by rw [o7_ _ (by omega)]; exact (a5 t ht).1, (a5 t ht).2⟩⟩
            by_cases w : p + 1 = ct (c1 n m) c
            · rw [w, u1_s]
            · rw [u1_n _ _ w]; exact a4
  · rintro ⟨h2, Ns, fs⟩ ⟨F2, g2, T2⟩
    have F2 : fr cdL h h2 := F2
    have K2 := sp_fr K F2
    have n2 : ah_i h2 170 s = nI n := by rw [fr_i F2 170 (by decide)]; exact hn
    refine X12_codeInto_16 ⟨o168 K2, 170, r168_2 K2, (s170 K2 _).mpr ((ix_nI (by omega)).mpr (by omega)), ?_⟩
    rw [nI_clamp (show s < 2 ^ 31 by omega), n2, nI_leI (by omega) (by omega)]
    exact ⟨fun _ => k h2 Ns fs F2 T2, fun w => absurd (Nat.le_refl _) w⟩
end MCODE2
