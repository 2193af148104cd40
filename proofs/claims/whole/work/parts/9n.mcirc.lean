/-! The class's polynomial; the reference counts the circles of a smoothing. -/
theorem wr_i (n : Nat) (m : Nat → Nat) : ∀ c : Nat, ∃ w : Int, -(c : Int) ≤ w ∧ w ≤ c ∧ wr n m c = iI w := by
  intro c
  induction c with
  | zero => exact ⟨0, by omega, by omega, rfl⟩
  | succ c ih =>
    obtain ⟨w, h1, h2, e⟩ := ih
    by_cases q : inn n m (4 * c) ↔ inn n m (4 * c + 3)
    · refine ⟨w + 1, by omega, by omega, ?_⟩
      show wr n m c + sgn n m c = _
      rw [sgn_y q, e]
      exact iI_add w 1
    · refine ⟨w - 1, by omega, by omega, ?_⟩
      show wr n m c + sgn n m c = _
      rw [sgn_n q, e, show m1 = iI (-1) from by decide, iI_add, show w + -1 = w - 1 by omega]
theorem sup140_brk {T : Nat → Nat → Nat} {n M : Nat} (hn : n ≤ 14) (hr : M ≤ 37) : sup140 (brk T n M) := sup140_hor hn hr
section MCIRC
variable {h : AH} {d bc bs b : Nat} {Q : Option Value → AH → Prop}
theorem c_makePolynomial {lb n l w x y : Nat} {A m : Nat → Nat} {P0 : Int → Int} {wv : Int} (K : sp h) (hb : hb3 b) (hlb : lb = 7 ∨ lb = 18) (P : Pr n A m) (h14 : n ≤ 14) (h9 : l ≤ 9) (hn : ah_f h lb 10 = nI n) (hl : ah_f h lb 11 = nI l) (hm : ∀ x, x < 4 * n → ah_i h (lb + 1) x = nI (m x)) (hq : ∀ i, i < 38 → ah_q h 34 i = some (35 + i)) (hw : ah_f h 32 3 = nI w) (L : LA h b x y P0) (hv : ah_f h lb 15 = iI wv) (v1 : -14 ≤ wv) (v2 : wv ≤ 14)
    (k : ∀ h' x' y', fB b h h' → LA h' b x' y' (lev wv (brk (TY n l m) n (2 * n + l))) → ah_f h' b 2 = nI 1 → ah_f h' 32 3 = nI (w + 2 ^ n) → Q none h') : ex_S yX9_makePolynomial mX9_makePolynomial (d + 18) [.ref 32, .ref lb, .ref b] h bc bs Q := by
  have hb' := hb
  unfold hb3 at hb'
  refine X9_makePolynomial_e (X9_makePolynomial_0 ⟨o32 K, c_makeBracket (d := d) K hb (lk7' hlb K) (by omega) P h14 h9 hn hl hm hq hw L (fun h1 x1 y1 F1 L1 m1_ w1 => ⟨rfl, ?_⟩)⟩)
  have K1 := sp_fB K hb F1
  have lbs : lb ∉ smb := fun q => by have := (by decide : ∀ a, a ∈ smb → 32 ≤ a) lb q; omega
  rw [(F1.2.2.2.2 lb lbs).1 (by omega), hv]
  refine ⟨lk_o (lk7' hlb K1), la_o K1 hb, c_llevel (d := d + 16) K1 hb L1 (sup140_brk h14 (by omega)) v1 v2 (fun h2 F2 L2 m2 => ⟨rfl, ?_⟩)⟩
  exact k h2 y1 x1 (fB_trans F1 (fB_fL F2)) L2 (by rw [m2]; exact m1_) (by rw [(F2.2.2.2.1 32 (by omega)).2]; exact w1)
theorem bitI {w c : Nat} (hw : w < 2 ^ 14) (hc : c < 14) : ((nI w >>> (nI c &&& (31 : Int32))) &&& 1) = nI (bt w c) := by
  have s1 : ((nI c &&& (31 : Int32)).toBitVec.smod 32).toNat = c := (by decide : ∀ c, c < 14 → ((nI c &&& (31 : Int32)).toBitVec.smod 32).toNat = c) c hc
  rw [pk_shrN (by omega) _ c s1]
  have : w / 2 ^ c ≤ w := Nat.div_le_self _ _
  exact and1 (n := w / 2 ^ c) (by omega)
/-- joins: the ends below 4 c are joined -/
theorem m_joins {s n w : Nat} (K : sp h) (hs : s < 368) (hn : ah_i h 170 s = nI n) (h14 : n ≤ 14) (hw : w < 2 ^ 14)
    (k : ∀ h', fr [187] h h' → (∀ e, e < 4 * n → ah_i h' 187 e = nI (sj w e)) → ex_G mX12_circlesOf d 143 [.ref 168, .int (nI s), .retAddr 0, .int (nI (4 * n)), .int (nI 0), .int (nI 0), .retAddr 0, .retAddr 0] [] h' bc bs Q) : ex_S yX12_circlesOf mX12_circlesOf d [.ref 168, .int (nI s), .int (nI w)] h bc bs Q := by
  have e4 : ∀ c : Nat, (4 : Int32) * nI c = nI (4 * c) := fun c => pk_mul 4 c
  refine X12_circlesOf_e (X12_circlesOf_0 ⟨o168 K, 170, r168_2 K, (s170 K _).mpr ((ix_nI (by omega)).mpr (by omega)), fun x4 ex4 => ?_⟩)
  rw [nI_clamp (by omega), hn, e4] at ex4
  rw [ex4]
  refine lp n (fun c h' => fr [187] h h' ∧ ∀ e, e < 4 * c → ah_i h' 187 e = nI (sj w e)) (fun c h' => ex_G mX12_circlesOf d 12 [.ref 168, .int (nI s), .int (nI w), .int (nI (4 * n)), .int (nI c), .retAddr 0, .retAddr 0, .retAddr 0] [] h' bc bs Q) ⟨fr_refl _ h, fun e he => absurd he (by omega)⟩ ?_ ?_
  · rintro c h1 hc ⟨F1, I⟩ nx
    have K1 := sp_fr K F1
    have n1 : ah_i h1 170 s = nI n := by rw [fr_i F1 170 (by decide)]; exact hn
    have p1 : nI (4 * c) + 1 = nI (4 * c + 1) := nI_add _ 1
    have p2 : nI (4 * c) + 2 = nI (4 * c + 2) := nI_add _ 2
    have p3 : nI (4 * c) + 3 = nI (4 * c + 3) := nI_add _ 3
    have p0 : nI (4 * c) + 0 = nI (4 * c) := nI_add _ 0
    have pc : nI c + 1 = nI (c + 1) := nI_add _ 1
    have t_ : ∀ h', sp h' → ∀ r, r < 4 → st0 h' 187 (nI (4 * c + r)) := fun h' K' r hr => (t187 K' _).mpr ((ix_nI (by omega)).mpr (by omega))
    -- the end
    have fin : ∀ h6 (v0 v1 v2 v3 : Nat), fr [187] h1 h6 → ah_i h6 187 = u1 (u1 (u1 (u1 (ah_i h1 187) (4 * c) (nI v0)) (4 * c + 1) (nI v1)) (4 * c + 2) (nI v2)) (4 * c + 3) (nI v3) → v0 = sj w (4 * c) → v1 = sj w (4 * c + 1) → v2 = sj w (4 * c + 2) → v3 = sj w (4 * c + 3) → ex_G mX12_circlesOf d 12 [.ref 168, .int (nI s), .int (nI w), .int (nI (4 * n)), .int (nI (c + 1)), .retAddr 0, .retAddr 0, .retAddr 0] [] h6 bc bs Q := fun h6 v0 v1 v2 v3 F6 g6 q0 q1 q2 q3 => by
      refine nx h6 ⟨fr_trans F1 F6, fun e he => ?_⟩
      rw [g6]
      by_cases z3 : e = 4 * c + 3
      · rw [z3, u1_s, q3]
      rw [u1_n _ _ z3]
      by_cases z2 : e = 4 * c + 2
      · rw [z2, u1_s, q2]
      rw [u1_n _ _ z2]
      by_cases z1 : e = 4 * c + 1
      · rw [z1, u1_s, q1]
      rw [u1_n _ _ z1]
      by_cases z0 : e = 4 * c
      · rw [z0, u1_s, q0]
      rw [u1_n _ _ z0]
      exact I e (by omega)
    refine X12_circlesOf_12 ⟨o168 K1, 170, r168_2 K1, (s170 K1 _).mpr ((ix_nI (by omega)).mpr (by omega)), ?_⟩
    rw [nI_clamp (show s < 2 ^ 31 by omega), n1, nI_leI (by omega) (by omega), bitI hw (by omega)]
    refine ⟨fun z => by omega, fun _ x5 e5 => ?_⟩
    rw [e4] at e5
    subst e5
    have b2 := bt_2 w c
    have q4 : ∀ r, r < 4 → (4 * c + r) / 4 = c := fun r hr => by omega
    refine ⟨fun z => ?_, fun z => ?_⟩
    · have bz : ¬ bt w c = 0 := fun q => z (by rw [q]; rfl)
      refine X12_circlesOf_43 ⟨o168 K1, 187, r168_24 K1, fun _ => ?_, fun q => absurd rfl q⟩
      refine X12_circlesOf_63 ⟨t_ h1 K1 0 (by decide), fun h2 e2 => ?_⟩
      rw [p3, nI_clamp (by omega)] at e2
      have F2 : fr [187] h1 h2 := by rw [e2]; exact fr_si (fr_refl _ h1) (by decide)
      have g2 : ah_i h2 187 = u1 (ah_i h1 187) (4 * c) (nI (4 * c + 3)) := by rw [e2, i_si_s]
      clear e2
      have K2 := sp_fr K1 F2
      refine ⟨o168 K2, 187, r168_24 K2, fun _ => ?_, fun q => absurd rfl q⟩
      rw [p1]
      refine X12_circlesOf_85 ⟨t_ h2 K2 1 (by decide), fun h3 e3 => ?_⟩
      rw [p2, nI_clamp (by omega)] at e3
      have F3 : fr [187] h1 h3 := by rw [e3]; exact fr_si F2 (by decide)
      have g3 : ah_i h3 187 = u1 (u1 (ah_i h1 187) (4 * c) (nI (4 * c + 3))) (4 * c + 1) (nI (4 * c + 2)) := by rw [e3, i_si_s, g2]
      clear e3
      have K3 := sp_fr K1 F3
      refine ⟨o168 K3, 187, r168_24 K3, fun _ => ?_, fun q => absurd rfl q⟩
      rw [p2]
      refine X12_circlesOf_107 ⟨t_ h3 K3 2 (by decide), fun h4 e4_ => ?_⟩
      rw [p1, nI_clamp (by omega)] at e4_
      have F4 : fr [187] h1 h4 := by rw [e4_]; exact fr_si F3 (by decide)
      have g4 : ah_i h4 187 = u1 (u1 (u1 (ah_i h1 187) (4 * c) (nI (4 * c + 3))) (4 * c + 1) (nI (4 * c + 2))) (4 * c + 2) (nI (4 * c + 1)) := by rw [e4_, i_si_s, g3]
      clear e4_
      have K4 := sp_fr K1 F4
      refine ⟨o168 K4, 187, r168_24 K4, fun _ => ?_, fun q => absurd rfl q⟩
      rw [p3, p0, nI_clamp (by omega), pc]
      refine ⟨t_ h4 K4 3 (by decide), fun h6 e6 x8 e8 => ?_⟩
      rw [e8]
      exact fin h6 (4 * c + 3) (4 * c + 2) (4 * c + 1) (4 * c) (by rw [e6]; exact fr_si F4 (by decide)) (by rw [e6, i_si_s, g4]) (by rw [sj_1 (by rw [show 4 * c / 4 = c by omega]; exact bz)]; omega) (by rw [sj_1 (by rw [q4 1 (by decide)]; exact bz)]; omega) (by rw [sj_1 (by rw [q4 2 (by decide)]; exact bz)]; omega) (by rw [sj_1 (by rw [q4 3 (by decide)]; exact bz)]; omega)
    · have bz : bt w c = 0 := by
        have z' : nI (bt w c) = nI 0 := z
        exact (nI_eq (by omega) (by omega)).mp z'
      have n10 : ¬ (1 : Int32) = 0 := by decide
      refine X12_circlesOf_43 ⟨o168 K1, 187, r168_24 K1, fun q => absurd q n10, fun _ => ?_⟩
      refine X12_circlesOf_63 ⟨t_ h1 K1 0 (by decide), fun h2 e2 => ?_⟩
      rw [p1, nI_clamp (by omega)] at e2
      have F2 : fr [187] h1 h2 := by rw [e2]; exact fr_si (fr_refl _ h1) (by decide)
      have g2 : ah_i h2 187 = u1 (ah_i h1 187) (4 * c) (nI (4 * c + 1)) := by rw [e2, i_si_s]
      clear e2
      have K2 := sp_fr K1 F2
      refine ⟨o168 K2, 187, r168_24 K2, fun q => absurd q n10, fun _ => ?_⟩
      rw [p1]
      refine X12_circlesOf_85 ⟨t_ h2 K2 1 (by decide), fun h3 e3 => ?_⟩
      rw [p0, nI_clamp (by omega)] at e3
      have F3 : fr [187] h1 h3 := by rw [e3]; exact fr_si F2 (by decide)
      have g3 : ah_i h3 187 = u1 (u1 (ah_i h1 187) (4 * c) (nI (4 * c + 1))) (4 * c + 1) (nI (4 * c)) := by rw [e3, i_si_s, g2]
      clear e3
      have K3 := sp_fr K1 F3
      refine ⟨o168 K3, 187, r168_24 K3, fun q => absurd q n10, fun _ => ?_⟩
      rw [p2]
      refine X12_circlesOf_107 ⟨t_ h3 K3 2 (by decide), fun h4 e4_ => ?_⟩
      rw [p3, nI_clamp (by omega)] at e4_
      have F4 : fr [187] h1 h4 := by rw [e4_]; exact fr_si F3 (by decide)
      have g4 : ah_i h4 187 = u1 (u1 (u1 (ah_i h1 187) (4 * c) (nI (4 * c + 1))) (4 * c + 1) (nI (4 * c))) (4 * c + 2) (nI (4 * c + 3)) := by rw [e4_, i_si_s, g3]
      clear e4_
      have K4 := sp_fr K1 F4
      refine ⟨o168 K4, 187, r168_24 K4, fun q => absurd q n10, fun _ => ?_⟩
      rw [p3, p2, nI_clamp (by omega), pc]
      refine ⟨t_ h4 K4 3 (by decide), fun h6 e6 x8 e8 => ?_⟩
      rw [e8]
      exact fin h6 (4 * c + 1) (4 * c) (4 * c + 3) (4 * c + 2) (by rw [e6]; exact fr_si F4 (by decide)) (by rw [e6, i_si_s, g4]) (by rw [sj_0 (by rw [show 4 * c / 4 = c by omega]; exact bz), if_pos (by omega)]) (by rw [sj_0 (by rw [q4 1 (by decide)]; exact bz), if_neg (by omega)]; omega) (by rw [sj_0 (by rw [q4 2 (by decide)]; exact bz), if_pos (by omega)]) (by rw [sj_0 (by rw [q4 3 (by decide)]; exact bz), if_neg (by omega)]; omega)
  · rintro h1 ⟨F1, I⟩
    have K1 := sp_fr K F1
    have n1 : ah_i h1 170 s = nI n := by rw [fr_i F1 170 (by decide)]; exact hn
    refine X12_circlesOf_12 ⟨o168 K1, 170, r168_2 K1, (s170 K1 _).mpr ((ix_nI (by omega)).mpr (by omega)), ?_⟩
    rw [nI_clamp (show s < 2 ^ 31 by omega), n1, nI_leI (by omega) (by omega)]
    exact ⟨fun _ => k h1 F1 I, fun z => absurd (Nat.le_refl _) z⟩
/-- which ends are marked -/
def Mk (N : Nat) (h : AH) (S : Nat → Prop) : Prop := ∀ x, x < N → (S x → ah_i h 178 x = nI 1) ∧ (¬ S x → ah_i h 178 x = nI 0)
theorem m_circles {s n l w : Nat} {A m : Nat → Nat} (K : sp h) (P : Pr n A m) (hs : s < 368) (hn : ah_i h 170 s = nI n) (hl : ah_i h 171 s = nI l) (h14 : n ≤ 14) (hm : ∀ e, e < 4 * n → ah_i h 176 e = nI (m e)) (hw : w < 2 ^ 14)
    (k : ∀ h', fr [178, 187] h h' → Q (some (.int (nI (cy n m w + l)))) h') : ex_S yX12_circlesOf mX12_circlesOf d [.ref 168, .int (nI s), .int (nI w)] h bc bs Q := by
  refine m_joins K hs hn h14 hw (fun h1 F1 J1 => ?_)
  have E := RR_EQ P w n (Nat.le_refl _)
  have G1 : fr [178, 187] h h1 := fr_mono F1 (by decide)
  refine lp (4 * n) (fun j h' => fr [178, 187] h h' ∧ ah_i h' 187 = ah_i h1 187 ∧ ∀ x, x < j → ah_i h' 178 x = nI 0) (fun j h' => ex_G mX12_circlesOf d 143 [.ref 168, .int (nI s), .retAddr 0, .int (nI (4 * n)), .int (nI 0), .int (nI j), .retAddr 0, .retAddr 0] [] h' bc bs Q) ⟨G1, rfl, fun x hx => absurd hx (Nat.not_lt_zero x)⟩ ?_ ?_
  · rintro j h2 hj ⟨F2, J2, I⟩ nx
    have K2 := sp_fr K F2
    have e1 : nI j + 1 = nI (j + 1) := nI_add _ 1
    refine X12_circlesOf_143 ⟨fun z => by rw [nI_leI (by omega) (by omega)] at z; omega, fun _ => ⟨o168 K2, 178, r168_12 K2, (s178 K2 _).mpr ((ix_nI (by omega)).mpr (by omega)), fun h4 e4 x6 e6 => ?_⟩⟩
    rw [nI_clamp (by omega)] at e4
    rw [e6, e1]
    refine nx h4 ⟨by rw [e4]; exact fr_si F2 (by decide), by rw [e4, i_si_n _ _ _ _ _ (by decide)]; exact J2, fun x hx => ?_⟩
    rw [e4, i_si_s]
    by_cases z : x = j
    · rw [z, u1_s]; rfl
    · rw [u1_n _ _ z]; exact I x (by omega)
  rintro h2 ⟨F2, J2, I2⟩
  refine X12_circlesOf_143 ⟨fun _ => ?_, fun z => absurd ((nI_leI (by omega) (by omega)).mpr (Nat.le_refl _)) z⟩
  have J : ∀ h', ah_i h' 187 = ah_i h1 187 → ∀ e, e < 4 * n → ah_i h' 187 e = nI (sj w e) := fun h' q e he => by rw [q]; exact J1 e he
  refine lp (4 * n) (fun j h' => fr [178, 187] h h' ∧ ah_i h' 187 = ah_i h1 187 ∧ Mk (4 * n) h' (fun x => ∃ y, y < j ∧ RR n m w n y x)) (fun j h' => ex_G mX12_circlesOf d 166 [.ref 168, .int (nI s), .retAddr 0, .int (nI (4 * n)), .int (nI (ct (lm (RR n m w n)) j)), .int (nI j), .retAddr 0, .retAddr 0] [] h' bc bs Q) ⟨F2, J2, fun x hx => ⟨fun ⟨y, hy, _⟩ => absurd hy (Nat.not_lt_zero y), fun _ => I2 x hx⟩⟩ ?_ ?_
  · rintro j h3 hj ⟨F3, J3, M3⟩ nx
    have K3 := sp_fr K F3
    have e1 : nI j + 1 = nI (j + 1) := nI_add _ 1
    have lmj : lm (RR n m w n) j ↔ ¬ ∃ y, y < j ∧ RR n m w n y j := ⟨fun q ⟨y, hy, o⟩ => by have := q y (E.2.1 _ _ (by omega) o); omega, fun q f hf => by
      by_cases z : f < j
      · exact absurd ⟨f, z, E.2.1 _ _ hj hf⟩ q
      · omega⟩
    refine X12_circlesOf_166 ⟨fun z => by rw [nI_leI (by omega) (by omega)] at z; omega, fun _ => ⟨o168 K3, 178, r168_12 K3, (s178 K3 _).mpr ((ix_nI (by omega)).mpr (by omega)), ?_⟩⟩
    rw [nI_clamp (show j < 2 ^ 31 by omega)]
    by_cases old : ∃ y, y < j ∧ RR n m w n y j
    · have sj1 : ah_i h3 178 j = nI 1 := (M3 j hj).1 old
      have no : ¬ lm (RR n m w n) j := fun q => lmj.mp q old
      rw [sj1]
      refine ⟨fun z => absurd z (by decide), fun _ x10 e10 => ?_⟩
      have e10' : x10 = nI (ct (lm (RR n m w n)) j) := by rw [e10]; exact nI_add _ 0
      rw [e10']
      refine X12_circlesOf_196 ⟨o168 K3, 178, r168_12 K3, (s178 K3 _).mpr ((ix_nI (by omega)).mpr (by omega)), ?_⟩
      rw [nI_clamp (show j < 2 ^ 31 by omega), sj1]
      refine ⟨fun _ x5 e5 => ?_, fun z => absurd z (by decide)⟩
      rw [e5, e1]
      have st := nx h3
      rw [ct_n no] at st
      refine st ⟨F3, J3, fun x hx => ⟨fun ⟨y, hy, o⟩ => (M3 x hx).1 ?_, fun q => (M3 x hx).2 (fun ⟨y, hy, o⟩ => q ⟨y, by omega, o⟩)⟩⟩
      by_cases z : y = j
      · obtain ⟨y', hy', o'⟩ := old
        rw [z] at o
        exact ⟨y', hy', E.2.2.1 _ _ _ o' o⟩
      · exact ⟨y, by omega, o⟩
    · have sj0 : ah_i h3 178 j = nI 0 := (M3 j hj).2 old
      have yes : lm (RR n m w n) j := lmj.mpr old
      obtain ⟨p, hp, -⟩ := isP_ex (wgP (w := w) P) hj
      rw [sj0]
      refine ⟨fun _ x9 e9 => ?_, fun z => absurd rfl z⟩
      have e9' : x9 = nI (ct (lm (RR n m w n)) j + 1) := by rw [e9]; exact nI_add _ 1
      rw [e9']
      have st := nx
      rw [ct_y yes] at st
      refine lp p (fun i h' => fr [178, 187] h h' ∧ ah_i h' 187 = ah_i h1 187 ∧ Mk (4 * n) h' (fun x => (∃ y, y < j ∧ RR n m w n y x) ∨ ∃ i', i' < i ∧ (it (wg m w) i' j = x ∨ m (it (wg m w) i' j) = x))) (fun i h' => ex_G mX12_circlesOf d 196 [.ref 168, .int (nI s), .retAddr 0, .int (nI (4 * n)), .int (nI (ct (lm (RR n m w n)) j + 1)), .int (nI j), .int (nI (it (wg m w) i j)), .retAddr 0] [] h' bc bs Q) ⟨F3, J3, fun x hx => ⟨fun q => (M3 x hx).1 (by
        rcases q with q | ⟨i', hi', _⟩
        · exact q
        · exact absurd hi' (Nat.not_lt_zero i')), fun q => (M3 x hx).2 (fun q' => q (Or.inl q'))⟩⟩ ?_ ?_
      · rintro i h4 hi ⟨F4, J4, M4⟩ nx2
        have K4 := sp_fr K F4
        have hf := it_lt (wgP (w := w) P) hj i
        have ho := P.lt hf
        have un : ah_i h4 178 (it (wg m w) i j) = nI 0 := (M4 _ hf).2 (fun q => by
          rcases q with ⟨y, hy, o⟩ | ⟨i', hi', q | q⟩
          · exact old ⟨y, hy, E.2.2.1 _ _ _ o (E.2.1 _ _ hj (RR_it P hj i))⟩
          · exact isP_ne (wgP P) hj hp hi' hi q
          · exact wg_not (w := w) P hj ⟨i', rfl⟩ ⟨i, q.symm⟩)
        have m4 : ah_i h4 176 = ah_i h 176 := fr_i F4 176 (by decide)
        refine X12_circlesOf_196 ⟨o168 K4, 178, r168_12 K4, (s178 K4 _).mpr ((ix_nI (by omega)).mpr (by omega)), ?_⟩
        rw [nI_clamp (show it (wg m w) i j < 2 ^ 31 by omega), un]
        refine ⟨fun z => absurd rfl z, fun _ h6 e6 => ?_⟩
        have F6 : fr [178, 187] h h6 := by rw [e6]; exact fr_si F4 (by decide)
        have K6 := sp_fr K F6
        have m6 : ah_i h6 176 (it (wg m w) i j) = nI (m (it (wg m w) i j)) := by rw [fr_i F6 176 (by decide)]; exact hm _ hf
        refine ⟨176, r168_10 K6, (s176 K6 _).mpr ((ix_nI (by omega)).mpr (by omega)), fun x9 e9 => ?_⟩
        rw [m6] at e9
        rw [e9]
        refine ⟨(s178 K6 _).mpr ((ix_nI (by omega)).mpr (by omega)), fun h10 e10 => ?_⟩
        rw [nI_clamp (by omega)] at e10
        have F10 : fr [178, 187] h h10 := by rw [e10]; exact fr_si F6 (by decide)
        have K10 := sp_fr K F10
        have J10 : ah_i h10 187 = ah_i h1 187 := by rw [e10, i_si_n _ _ _ _ _ (by decide), e6, i_si_n _ _ _ _ _ (by decide)]; exact J4
        have g10 : ah_i h10 178 = u1 (u1 (ah_i h4 178) (it (wg m w) i j) (nI 1)) (m (it (wg m w) i j)) (nI 1) := by rw [e10, i_si_s, e6, i_si_s]; rfl
        refine ⟨187, r168_24 K10, (s187 K10 _).mpr ((ix_nI (by omega)).mpr (by omega)), fun x14 e14 => ?_⟩
        rw [nI_clamp (by omega), J h10 J10 _ ho] at e14
        have e14' : x14 = nI (it (wg m w) (i + 1) j) := by rw [e14, it_s]; rfl
        rw [e14']
        refine nx2 h10 ⟨F10, J10, fun x hx => ⟨fun q => ?_, fun q => ?_⟩⟩
        · rw [g10]
          by_cases z1 : x = m (it (wg m w) i j)
          · rw [z1, u1_s]
          rw [u1_n _ _ z1]
          by_cases z2 : x = it (wg m w) i j
          · rw [z2, u1_s]
          rw [u1_n _ _ z2]
          refine (M4 x hx).1 ?_
          rcases q with q | ⟨i', hi', q⟩
          · exact Or.inl q
          · refine Or.inr ⟨i', ?_, q⟩
            by_cases z : i' = i
            · rw [z] at q
              rcases q with q | q
              · exact absurd q.symm z2
              · exact absurd q.symm z1
            · omega
        · have z1 : x ≠ m (it (wg m w) i j) := fun z => q (Or.inr ⟨i, by omega, Or.inr z.symm⟩)
          have z2 : x ≠ it (wg m w) i j := fun z => q (Or.inr ⟨i, by omega, Or.inl z.symm⟩)
          rw [g10, u1_n _ _ z1, u1_n _ _ z2]
          refine (M4 x hx).2 (fun q' => q ?_)
          rcases q' with q' | ⟨i', hi', q'⟩
          · exact Or.inl q'
          · exact Or.inr ⟨i', by omega, q'⟩
      · rintro h4 ⟨F4, J4, M4⟩
        have K4 := sp_fr K F4
        have sn : ah_i h4 178 j = nI 1 := (M4 j hj).1 (Or.inr ⟨0, hp.1, Or.inl rfl⟩)
        rw [hp.2.1]
        refine X12_circlesOf_196 ⟨o168 K4, 178, r168_12 K4, (s178 K4 _).mpr ((ix_nI (by omega)).mpr (by omega)), ?_⟩
        rw [nI_clamp (show j < 2 ^ 31 by omega), sn]
        refine ⟨fun _ x5 e5 => ?_, fun z => absurd z (by decide)⟩
        rw [e5, e1]
        refine st h4 ⟨F4, J4, fun x hx => ⟨fun ⟨y, hy, o⟩ => (M4 x hx).1 ?_, fun q => (M4 x hx).2 (fun q' => q ?_)⟩⟩
        · by_cases z : y = j
          · rw [z] at o
            exact Or.inr ((RR_iff P hj hp).mp o)
          · exact Or.inl ⟨y, by omega, o⟩
        · rcases q' with ⟨y, hy, o⟩ | q'
          · exact ⟨y, by omega, o⟩
          · exact ⟨j, by omega, (RR_iff P hj hp).mpr q'⟩
  · rintro h3 ⟨F3, J3, M3⟩
    have K3 := sp_fr K F3
    refine X12_circlesOf_166 ⟨fun _ => ⟨o168 K3, 171, r168_3 K3, (s171 K3 _).mpr ((ix_nI (by omega)).mpr (by omega)), ?_⟩, fun z => absurd ((nI_leI (by omega) (by omega)).mpr (Nat.le_refl _)) z⟩
    rw [nI_clamp (by omega), fr_i F3 171 (by decide), hl, nI_add]
    exact k h3 F3
end MCIRC
