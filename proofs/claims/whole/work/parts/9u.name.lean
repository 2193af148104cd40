/-! name. -/
section NAME
variable {h h1 h3 h5 h6 hz : AH} {d bc bs b : Nat} {Q : Option Value → AH → Prop} {W : Nat → Nat} {N : Nat} {B : Nat → Nat} {S : Nat → Int32} {len : Nat}
theorem c_isAs {a1 x1 a2 x2 : Nat} (o1 : ah_o h a1 2) (r1 : ah_r h a1 0 = some x1) (t1 : ah_x h x1 2 281) (o2 : ah_o h a2 2) (r2 : ah_r h a2 0 = some x2) (t2 : ah_x h x2 2 281)
    (k1 : (∀ j, j < 281 → ah_l h x1 j = ah_l h x2 j) → Q (some (.int (nI 1))) h) (k0 : (¬ ∀ j, j < 281 → ah_l h x1 j = ah_l h x2 j) → Q (some (.int (nI 0))) h) : ex_S yX2_isAs mX2_isAs d [.ref a1, .ref a2] h bc bs Q := by
  refine X2_isAs_e (X2_isAs_0 ?_)
  refine lp 281 (fun j h' => h' = h ∧ ∀ i, i < j → ah_l h x1 i = ah_l h x2 i) (fun j h' => ex_G mX2_isAs d 2 [.ref a1, .ref a2, .int (nI j)] [] h' bc bs Q) ⟨rfl, fun i hi => absurd hi (Nat.not_lt_zero i)⟩ ?_ ?_
  · rintro j h1 hj ⟨e, I⟩ nx
    subst e
    have c1 : (281 : Int32) ≤ nI j ↔ 281 ≤ j := nI_leI (a := 281) (by omega) (by omega)
    have e1 : nI j + 1 = nI (j + 1) := nI_add _ 1
    have ij : ix (nI j) 281 := (ix_nI (by omega)).mpr hj
    refine X2_isAs_2 ⟨fun w => by have := c1.mp w; omega, fun _ => ⟨o1, x1, r1, (ld2_x t1 _).mpr ij, o2, x2, r2, (ld2_x t2 _).mpr ij, ?_⟩⟩
    rw [nI_clamp (by omega)]
    refine ⟨fun w x9 e9 => ?_, fun w => k0 (fun q => w ((lgc0 _ _).mpr (q j hj)))⟩
    rw [e9, e1]
    refine nx h1 ⟨rfl, fun i hi => ?_⟩
    by_cases z : i = j
    · rw [z]; exact (lgc0 _ _).mp w
    · exact I i (by omega)
  · rintro h1 ⟨e, I⟩
    subst e
    exact X2_isAs_2 ⟨fun _ => k1 I, fun w => absurd (show (281 : Int32) ≤ nI 281 by decide) w⟩
/-- name k is told for the polynomial P -/
def EK (U : Nat → Int64) (P : Int → Int) (k : Nat) : Prop := ∀ j : Nat, j < 281 → U (601 * k + j + 160) = Int64.ofInt (P ((j : Int) - 140))
theorem c_firstFor {Nn x y : Nat} {P : Int → Int} {U : Nat → Int64} (K : sp h) (h200 : Nn ≤ 200) (hN : ah_f h 164 2 = nI Nn) (hB : ∀ k, k < Nn → ∃ a, ah_q h 166 k = some a ∧ ah_o h a 2 ∧ ah_x h (a + 1) 2 281 ∧ ah_r h a 0 = some (a + 1) ∧ ∀ j, j < 281 → ah_l h (a + 1) j = U (601 * k + j + 160)) (hb : hb3 b) (L : LA h b x y P)
    (k1 : ∀ k, k < Nn → EK U P k → (∀ i, i < k → ¬ EK U P i) → Q (some (.long (ah_l h 165 k))) h) (k0 : (∀ i, i < Nn → ¬ EK U P i) → Q (some (.long 0)) h) : ex_S yX0_firstFor mX0_firstFor (d + 1) [.ref 164, .ref b] h bc bs Q := by
  refine X0_firstFor_e (X0_firstFor_0 ?_)
  refine lp Nn (fun j h' => h' = h ∧ ∀ i, i < j → ¬ EK U P i) (fun j h' => ex_G mX0_firstFor (d + 1) 2 [.ref 164, .ref b, .int (nI j)] [] h' bc bs Q) ⟨rfl, fun i hi => absurd hi (Nat.not_lt_zero i)⟩ ?_ ?_
  · rintro j h1 hj ⟨e, I⟩ nx
    subst e
    have e1 : nI j + 1 = nI (j + 1) := nI_add _ 1
    obtain ⟨a, q1, q2, q3, q4, q5⟩ := hB j hj
    have ij : ix (nI j) 200 := (ix_nI (by omega)).mpr (by omega)
    refine X0_firstFor_2 ⟨o164 K, fun w => ?_, fun _ => ⟨166, r164_1 K, (s166 K _).mpr ij, a, by rw [nI_clamp (by omega)]; exact q1, q2, c_isAs q2 q4 q3 (la_o K hb) L.2.1 (la_x K hb (LA_xb L).1) (fun eq => ⟨_, rfl, fun w => absurd w (by decide), fun _ => ⟨o164 K, 165, r164_0 K, (s165 K _).mpr ij, ?_⟩⟩) (fun ne => ⟨_, rfl, fun _ x10 e10 => ?_, fun w => absurd rfl w⟩)⟩⟩
    · rw [hN, nI_leI (by omega) (by omega)] at w
      omega
    · rw [nI_clamp (by omega)]
      exact k1 j hj (fun i hi => by rw [← q5 i hi, eq i hi]; exact L.2.2.2 i hi) I
    · rw [e10, e1]
      refine nx h1 ⟨rfl, fun i hi => ?_⟩
      by_cases z : i = j
      · rw [z]
        exact fun ek => ne (fun t ht => by rw [q5 t ht, ek t ht]; exact (L.2.2.2 t ht).symm)
      · exact I i (by omega)
  · rintro h1 ⟨e, I⟩
    subst e
    exact X0_firstFor_2 ⟨o164 K, fun _ => k0 I, fun w => absurd (by rw [hN]; exact (nI_leI (by omega) (by omega)).mpr (Nat.le_refl _)) w⟩
theorem m_named {Nn : Nat} {P : Int → Int} (K : sp h) (h200 : Nn ≤ 200) (hN : ah_f h 168 62 = nI Nn) (hz_ : ∀ k, k < Nn → ∀ j, j < 601 → j < 160 ∨ 440 < j → ah_l h 215 (601 * k + j) = 0) (L : ml h 185 P) (S0 : sup140 P)
    (k1 : ∀ k, k < Nn → EK (ah_l h 215) P k → (∀ i, i < k → ¬ EK (ah_l h 215) P i) → Q (some (.int (nI k))) h) (k0 : (∀ i, i < Nn → ¬ EK (ah_l h 215) P i) → Q (some (.int (-1))) h) : ex_S yX12_named mX12_named d [.ref 168] h bc bs Q := by
  have iff_ : ∀ k, k < Nn → (EK (ah_l h 215) P k ↔ ∀ i, i < 601 → ah_l h 215 (601 * k + i) = ah_l h 185 i) := fun k hk => ⟨fun e i hi => by
    rw [L i hi]
    by_cases z : i < 160 ∨ 440 < i
    · rw [hz_ k hk i hi z, S0 _ (by omega)]; rfl
    · have := e (i - 160) (by omega)
      rw [show 601 * k + (i - 160) + 160 = 601 * k + i by omega, show ((i - 160 : Nat) : Int) - 140 = (i : Int) - 300 by omega] at this
      exact this, fun e j hj => by
    have := e (j + 160) (by omega)
    rw [L _ (by omega), show ((j + 160 : Nat) : Int) - 300 = (j : Int) - 140 by omega, ← Nat.add_assoc] at this
    exact this⟩
  refine X12_named_e (X12_named_0 ?_)
  refine lp Nn (fun j h' => h' = h ∧ ∀ i, i < j → ¬ EK (ah_l h 215) P i) (fun j h' => ex_G mX12_named d 2 [.ref 168, .int (nI j), .retAddr 0, .retAddr 0] [] h' bc bs Q) ⟨rfl, fun i hi => absurd hi (Nat.not_lt_zero i)⟩ ?_ ?_
  · rintro j h1 hj ⟨e, I⟩ nx
    subst e
    have e1 : nI j + 1 = nI (j + 1) := nI_add _ 1
    refine X12_named_2 ⟨o168 K, fun w => by rw [hN, nI_leI (by omega) (by omega)] at w; omega, fun _ => ?_⟩
    -- at the end of the row: is = (all are equal)
    have fin : ∀ v : Int32, (v = nI 1 ∧ ∀ i, i < 601 → ah_l h1 215 (601 * j + i) = ah_l h1 185 i) ∨ (v = nI 0 ∧ ∃ i, i < 601 ∧ ah_l h1 215 (601 * j + i) ≠ ah_l h1 185 i) → ex_G mX12_named d 59 [.ref 168, .int (nI j), .int v, .retAddr 0] [] h1 bc bs Q := fun v hv => by
      refine X12_named_59 ⟨fun z x2 e2 => ?_, fun z => ?_⟩
      · rcases hv with ⟨q, -⟩ | ⟨-, i, hi, q⟩
        · rw [q] at z
          exact absurd z (by decide)
        · rw [e2, e1]
          refine nx h1 ⟨rfl, fun t ht => ?_⟩
          by_cases w : t = j
          · rw [w]
            exact fun ek => q ((iff_ j hj).mp ek i hi)
          · exact I t (by omega)
      · rcases hv with ⟨-, q⟩ | ⟨q, -⟩
        · exact k1 j hj ((iff_ j hj).mpr q) I
        · exact absurd q z
    have lit : ∀ i : Nat, (601 : Int32) * nI j + nI i = nI (601 * j + i) := fun i => by
      have : (601 : Int32) * nI j = nI (601 * j) := pk_mul 601 j
      rw [this, nI_add]
    refine lp (σ := Int32) 601 (fun i v => (v = nI 1 ∧ ∀ t, t < i → ah_l h1 215 (601 * j + t) = ah_l h1 185 t) ∨ (v = nI 0 ∧ ∃ t, t < 601 ∧ ah_l h1 215 (601 * j + t) ≠ ah_l h1 185 t)) (fun i v => ex_G mX12_named d 14 [.ref 168, .int (nI j), .int v, .int (nI i)] [] h1 bc bs Q) (s := nI 1) (Or.inl ⟨rfl, fun t ht => absurd ht (Nat.not_lt_zero t)⟩) ?_ ?_
    · rintro i v hi iv nx2
      have c1 : (601 : Int32) ≤ nI i ↔ 601 ≤ i := nI_leI (a := 601) (by omega) (by omega)
      have ei : nI i + 1 = nI (i + 1) := nI_add _ 1
      refine X12_named_14 ⟨fun w => by have := c1.mp w; omega, fun _ => ⟨fun z => ?_, fun z => ⟨o168 K, 215, r168_64 K, ?_⟩⟩⟩
      · rcases iv with ⟨q, -⟩ | q
        · rw [q] at z
          exact absurd z (by decide)
        · exact fin v (Or.inr q)
      · rw [lit, ei, nI_clamp (show 601 * j + i < 2 ^ 31 by omega), nI_clamp (show i < 2 ^ 31 by omega)]
        refine ⟨(s215 K _).mpr ((ix_nI (by omega)).mpr (by omega)), 185, r168_20 K, (s185 K _).mpr ((ix_nI (by omega)).mpr hi), fun w x9 e9 => ?_, fun w x10 e10 => ?_⟩
        · rw [e9]
          exact nx2 (nI 0) (Or.inr ⟨rfl, i, hi, fun q => w ((lgc0 _ _).mpr q)⟩)
        · rw [e10]
          rcases iv with ⟨q, al⟩ | ⟨q, -⟩
          · refine nx2 (nI 1) (Or.inl ⟨rfl, fun t ht => ?_⟩)
            by_cases y : t = i
            · rw [y]; exact (lgc0 _ _).mp w
            · exact al t (by omega)
          · exact absurd q z
    · rintro v iv
      exact X12_named_14 ⟨fun _ => fin v iv, fun w => absurd (show (601 : Int32) ≤ nI 601 by decide) w⟩
  · rintro h1 ⟨e, I⟩
    subst e
    exact X12_named_2 ⟨o168 K, fun _ => k0 I, fun w => absurd (by rw [hN]; exact (nI_leI (by omega) (by omega)).mpr (Nat.le_refl _)) w⟩
theorem st_name (x : R0 h W N B S len) (p : Int32) : STL yX11_name mX11_name yX12_name mX12_name (d + 19) (d + 6) [.int p] h bc bs W S len := by
  have K := x.2.1
  obtain ⟨h24, hN, hN2, hP⟩ := x.2.2.2.2.1
  obtain ⟨w, w6, hw, hw2⟩ := x.2.2.2.2.2.2.2.2.1
  have hv := hasP (p := p) hN h24
  refine X11_name_e (X11_name_0 ⟨o0 K, hasPC K p, fun z => ?_, fun z => ?_⟩)
  · have Rn := R1_cNo x.2 (fcs_refl h) (-nI 2)
    refine X11_name_20 ⟨fun w => absurd w (by decide), fun _ => ⟨o0 K, c_no K 2 (by decide) ⟨_, rfl, _, rfl, ?_⟩⟩⟩
    refine X12_name_e (X12_name_0 ⟨o168 Rn.1, X12_spends_e (X12_spends_0 ⟨o168 Rn.1, m_refusal_no Rn (hv.mp z) ⟨_, rfl, fun w => absurd w (by decide), fun _ => ⟨_, rfl, fun w => absurd w (by decide), fun _ => ⟨rfl, ?_⟩⟩⟩⟩)⟩)
    exact D_no x (fcs_refl h) (-nI 2) (fms_refl _)
  · have ip : ix p N := Classical.not_not.mp (fun w => z (hv.mpr w))
    obtain ⟨p0, hp0, ep⟩ := ix_of ip (by omega)
    subst ep
    refine c_why (d := d + 13) (lim := 10) x.2 hp0 (by decide) hw w6 (fun h1 n op F => ⟨_, rfl, ?_⟩) (fun h1 n l f wh F rf => ⟨_, rfl, ?_⟩) (fun h1 n l wh F l1 l2 LFh ne le lw => ⟨_, rfl, ?_⟩)
    · have Fc := fcs_fr F lkc7
      have Rf := R1_cF x.2 Fc 3
      obtain ⟨-, hn, h40, r, pl, r0, O⟩ := op
      refine X11_name_20 ⟨fun w => absurd w (by decide), fun _ => ⟨o0 (sp_fr K F), c_f (sp_fr K F) 3 (by decide) (by decide) ⟨_, rfl, _, rfl, ?_⟩⟩⟩
      refine X12_name_e (X12_name_0 ⟨o168 Rf.1, m_spends_open (lim := 10) Rf (kc_f Fc 3) hp0 hn h40 O r0 (fun h3 G3 => ⟨_, rfl, fun w => absurd w (by decide), fun _ => ⟨rfl, ?_⟩⟩)⟩)
      exact D_f x Fc (by decide) (by decide) G3
    · have Fc := fcs_fr F lkc7
      have Rf := R1_cF x.2 Fc f
      have f3 := RF_f rf
      have nz : ¬ (-nI (10 + f) = (0 : Int32)) ∧ ¬ (0 : Int32) ≤ -nI (10 + f) := by
        rcases f3 with e | e | e
        · subst e; decide
        · subst e; decide
        · subst e; decide
      refine X11_name_20 ⟨fun w => absurd w nz.1, fun _ => ⟨o0 (sp_fr K F), c_f (sp_fr K F) f (by omega) (by omega) ⟨_, rfl, _, rfl, ?_⟩⟩⟩
      refine X12_name_e (X12_name_0 ⟨o168 Rf.1, m_spends (lim := 10) (w := w) Rf.1 (by rw [cF_168 Fc]; exact hN2) h24 wh (cF_sl Fc f p0) (by decide) (by rw [cF_168 Fc]; exact hw2) w6 (fun h3 f' G3 F3 rf' => ⟨_, rfl, fun w => ?_, fun _ => ?_⟩) (fun h3 G3 F3 ne le lw => (RF_no rf ne le lw).elim)⟩)
      · rw [← RF_u rf rf'] at w
        exact absurd w nz.2
      · rw [← RF_u rf rf']
        exact ⟨rfl, D_f x Fc (by omega) (by omega) G3⟩
    · have K1 := sp_fr K F
      have hb : hb3 76 := Or.inr (Or.inl rfl)
      have C1 := LAC_q x.2.2.1 F.1.2.2.1 F.1.2.2.2
      obtain ⟨xr, yr, e, r0, r1⟩ := LA_ex C1 hb
      have wh' := wh
      obtain ⟨-, hn, h40, h9, ⟨pl, O⟩, C, M, R⟩ := wh
      have le14 : n ≤ 14 := by omega
      obtain ⟨wv, v1, v2, ev⟩ := wr_i n (mt n (AN (ah_i h (B p0 + 2)))) n
      refine X11_name_20 ⟨fun _ => ⟨o0 K1, 32, r0_7 K1, 7, r0_4 K1, 76, r0_9 K1, o32 K1, c_makePolynomial (d := d) (l := l) (w := w) (wv := wv) K1 hb (Or.inl rfl) R le14 h9 l1 l2 LFh.1 C1.2.1 (by rw [fr_f F 32 (by decide)]; exact hw) (LA_any e r0 r1) (LFh.2.2.2.2.2.2.2.2.trans ev) (by omega) (by omega) (fun h6 x6 y6 F6 L6 m6 w6' => ⟨rfl, ?_⟩)⟩, fun z => absurd rfl z⟩
      have K6 := sp_fB K1 hb F6
      have S0 := sup140_lev (T := TY n l (mt n (AN (ah_i h (B p0 + 2))))) (wv := wv) le14 h9 (by omega) (by omega)
      refine ⟨o0 K6, fun h9_ e9 => ?_⟩
      have e9' : h9_ = cNo h6 (nI 0) := e9
      rw [e9']
      obtain ⟨Nn, b200, b1, b2, b3, b4⟩ := x.2.2.2.2.2.2.2.2.2
      obtain ⟨Kc, Cc, nc, Ec, f0c, -⟩ := B_see x hb F F6 L6
      have L6c : LA (cNo h6 (nI 0)) 76 x6 y6 (lev wv (brk (TY n l (mt n (AN (ah_i h (B p0 + 2))))) n (2 * n + l))) := ⟨L6.1, by rw [r_cNo]; exact L6.2.1, by rw [r_cNo]; exact L6.2.2.1, fun k hk => by unfold cNo; rw [l_sf]; exact L6.2.2.2 k hk⟩
      have eb : ∀ a, 216 ≤ a ∨ a = 164 ∨ a = 165 ∨ a = 166 ∨ a = 214 ∨ a = 215 → eqc h (cNo h6 (nI 0)) a := fun a ha => Ec a (by omega) (fun q => by have := (by decide : ∀ a, a ∈ Cscr → a < 125) a q; omega) (by omega) (by omega) (by omega) (by omega)
      have hB : ∀ k, k < Nn → ∃ a, ah_q (cNo h6 (nI 0)) 166 k = some a ∧ ah_o (cNo h6 (nI 0)) a 2 ∧ ah_x (cNo h6 (nI 0)) (a + 1) 2 281 ∧ ah_r (cNo h6 (nI 0)) a 0 = some (a + 1) ∧ ∀ j, j < 281 → ah_l (cNo h6 (nI 0)) (a + 1) j = ah_l h 215 (601 * k + j + 160) := fun k hk => by
        obtain ⟨a, q1, q2, q3, q4, q5, q6, q7, q8, q9, q10⟩ := b4 k hk
        have ea := eb a (by omega)
        have ea1 := eb (a + 1) (by omega)
        exact ⟨a, by rw [(eb 166 (by omega)).2.2.2.2.2]; exact q1, ah_o_eq q4 ea (by omega), ah_x_eq q5 ea1 (by omega), by rw [ea.2.2.2.2.1]; exact q8, fun j hj => by rw [ea1.2.2.2.1]; exact q9 j hj⟩
      have c5 : ah_l (cNo h6 (nI 0)) 165 = ah_l h 165 := (eb 165 (by omega)).2.2.2.1
      have fc : ah_f (cNo h6 (nI 0)) 168 = ah_f h 168 := (Ec 168 (by decide) (by decide) (by decide) (by decide) (by decide) (by decide)).2.1
      have ic : ∀ a, a = 170 ∨ a = 171 ∨ a = 172 ∨ a = 173 → ah_i (cNo h6 (nI 0)) a = ah_i h a := fun a ha => (Ec a (by omega) (fun q => by have := (by decide : ∀ a, a ∈ Cscr → a < 125) a q; omega) (by omega) (by omega) (by omega) (by omega)).2.2.1
      have slc : sl h (cNo h6 (nI 0)) p0 := sl_of p0 (ic 170 (by omega)) (ic 171 (by omega)) (ic 172 (by omega)) (ic 173 (by omega))
      -- the reference
      have ref : ∀ v : Int64, ((∃ k, k < Nn ∧ EK (ah_l h 215) (lev wv (brk (TY n l (mt n (AN (ah_i h (B p0 + 2))))) n (2 * n + l))) k ∧ (∀ i, i < k → ¬ EK (ah_l h 215) (lev wv (brk (TY n l (mt n (AN (ah_i h (B p0 + 2))))) n (2 * n + l))) i) ∧ v = ah_l h 165 k) ∨ ((∀ i, i < Nn → ¬ EK (ah_l h 215) (lev wv (brk (TY n l (mt n (AN (ah_i h (B p0 + 2))))) n (2 * n + l))) i) ∧ v = 0)) → ex_S yX12_name mX12_name (d + 6) [.ref 168, .int (nI p0)] (cNo h6 (nI 0)) 0 0 (fun r' h2 => r' = some (.long v) ∧ DONE h h2 W S len) := fun v hv => by
        refine X12_name_e (X12_name_0 ⟨o168 Kc, m_spends (lim := 10) (w := w) Kc (by rw [fc]; exact hN2) h24 wh' slc (by decide) (by rw [fc]; exact hw2) w6 (fun h3 f' G3 F3 rf' => (RF_no rf' ne le lw).elim) (fun h3 G3 F3 _ _ _ => ⟨_, rfl, fun _ => ?_, fun w => absurd (show (0 : Int32) ≤ nI 0 by decide) w⟩)⟩)
        have K3 := G3.2.2.1 Kc
        have M3 := mD_sl (mD_sl M h40 slc) h40 (G3.2.2.2.2 p0 (by omega))
        refine ⟨o168 K3, m_polynomialOf (d := d + 2) (w := w) (wv := wv) K3 R (by omega) M3 le14 h9 (by rw [G3.2.2.2.1 23 (by decide), fc]; exact hw2) ev (by omega) (by omega) (fun h5 F5 f5 L5 => ⟨rfl, ?_⟩)⟩
        have K5 := sp_fr K3 F5
        have F5' : fr mlL h3 h5 := fr_mono F5 (by decide)
        have e5 : ∀ a, a = 214 ∨ a = 215 → ah_l h5 a = ah_l h a := fun a ha => by
          rw [fr_l F5 a (fun q => by have := (by decide : ∀ a, a ∈ [168, 176, 178, 179, 181, 182, 185, 187, 188, 189, 190] → a < 200) a q; omega), (G3.2.1 a (fun q => by have := (by decide : ∀ a, a ∈ Mscr → a < 214) a q; omega)).2.2.2.1, (eb a (by omega)).2.2.2.1]
        have n5 : ah_f h5 168 62 = nI Nn := by rw [f5, u1_n _ _ (by decide), G3.2.2.2.1 62 (by decide), fc]; exact b2
        have key : ∀ hz, hz = mNo h5 (nI 0) → DONE h hz W S len := by
          intro hz ez
          have Fz : fr [168] h5 hz := by rw [ez]; unfold mNo; exact fr_sf (fr_refl _ h5) (by decide)
          have fz : ah_f hz 168 = u1 (ah_f h5 168) 0 (nI 0) := by rw [ez]; unfold mNo; rw [f_sf_s]
          exact D_brk x hb F F6 L6 w6' lw G3 F3 F5' f5 (fr_mono Fz (by decide)) (fun k k0 k22 => by rw [fz, u1_n _ _ k0]) (by rw [fz, u1_s]) (RS_keep x hb (by decide) F F6 L6 G3 F5' (fun k hk => by rw [f5, u1_n _ _ hk]) Fz (fun k hk => by rw [fz, u1_n _ _ hk]))
        have Kz : sp (mNo h5 (nI 0)) := by unfold mNo; exact sp_fr (L := [168]) K5 (fr_sf (fr_refl _ h5) (by decide))
        refine ⟨o168 K5, m_named (d := d + 5) K5 b200 n5 (fun k hk j hj q => by rw [e5 215 (by omega)]; obtain ⟨a, q1, q2, q3, q4, q5, q6, q7, q8, q9, q10⟩ := b4 k hk; exact q10 j hj q) L5 S0 (fun k hk ek no => ⟨_, rfl, o168 K5, weC K5 _, fun h12 e12 x13 _ => ⟨fun _ => ?_, fun w => absurd w (m1_ne (a := k) (by omega))⟩⟩) (fun no => ⟨_, rfl, o168 K5, weC K5 _, fun h12 e12 x13 _ => ⟨fun w => absurd rfl w, fun _ => ?_⟩⟩)⟩
        · rw [e12, weH]
          rw [e5 215 (by omega)] at ek no
          refine ⟨o168 Kz, 214, r168_63 Kz, (s214 Kz _).mpr ((ix_nI (by omega)).mpr (by omega)), ?_, key _ rfl⟩
          rw [nI_clamp (by omega), show ah_l (mNo h5 (nI 0)) 214 = ah_l h5 214 by unfold mNo; rw [l_sf], e5 214 (by omega)]
          rcases hv with ⟨k', hk', ek', no', v'⟩ | ⟨no', -⟩
          · have : k' = k := by
              rcases Nat.lt_trichotomy k' k with q | q | q
              · exact absurd ek' (no k' q)
              · exact q
              · exact absurd ek (no' k q)
            rw [v', this, b3 k hk]
          · exact absurd ek (no' k hk)
        · rw [e12, weH]
          rw [e5 215 (by omega)] at no
          refine ⟨?_, key _ rfl⟩
          rcases hv with ⟨k', hk', ek', no', v'⟩ | ⟨no', v'⟩
          · exact absurd ek' (no k' hk')
          · rw [v']
      refine ⟨164, r0_13 Kc, 76, r0_9 Kc, o164 Kc, c_firstFor (d := d + 17) (U := ah_l h 215) Kc b200 (by rw [(eb 164 (by omega)).2.1]; exact b1) hB hb L6c (fun k hk ek no => ⟨_, rfl, _, rfl, ref _ (Or.inl ⟨k, hk, ek, no, by rw [c5]⟩)⟩) (fun no => ⟨_, rfl, _, rfl, ref _ (Or.inr ⟨no, rfl⟩)⟩)⟩
end NAME
