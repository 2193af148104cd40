/-! Moves on the reference's side: twist, poke, smooth, flype. -/
section MMOVE2
variable {h : AH} {d bc bs n l : Nat} {A m : Nat → Nat} {x1 x2 x3 : Int32} {Q : Option Value → AH → Prop}
theorem us_m (D : mD h 364 n l A) (hA : ∀ e, e < 4 * n → A e < 100) : ∀ x, x < 100 → ((∃ e, e < 4 * n ∧ ah_i h 173 (160 * 364 + e) = nI x) ↔ us n A x) := fun x hx => ⟨fun ⟨e, he, q⟩ => ⟨e, he, by
  have := hA e he
  rw [D.2.2.2 e he, nI_eq (by omega) (by omega)] at q
  exact q⟩, fun ⟨e, he, q⟩ => ⟨e, he, by rw [D.2.2.2 e he, q]⟩⟩
theorem m_freeX {lo a : Nat} {v : Int32} (K : sp h) (D : mD h 364 n l A) (h40 : n ≤ 40) (hA : ∀ e, e < 4 * n → A e < 100) (fx : fa (us n A) lo a) (hv : v + 1 = nI lo) (k : ∀ h', fr [195] h h' → Q (some (.int (nI a))) h') : ex_S yX12_free mX12_free d [.ref 168, .int 364, .int v] h bc bs Q := m_free (s := 364) K (by decide) D.1 h40 (fun e he => ⟨A e, hA e he, D.2.2.2 e he⟩) (us_m D hA) fx hv k
theorem in03 {v : Int32} (h : AH) : X12_in_V v.toInt64 0 3 h = nI 0 ↔ ¬ ix v 4 := by
  refine (in_rg (v := v) 0 3 (by decide) (by decide) h).trans ?_
  unfold ix
  constructor <;> intro q p <;> exact q ⟨by omega, by omega⟩
theorem in0_1 {v : Int32} (h : AH) : X12_in_V v.toInt64 0 1 h = nI 0 ↔ ¬ ix v 2 := by
  refine (in_rg (v := v) 0 1 (by decide) (by decide) h).trans ?_
  unfold ix
  constructor <;> intro q p <;> exact q ⟨by omega, by omega⟩
theorem m_twist {f n' l' : Nat} {A' : Nat → Nat} (X : MC h n l A m) (M : mvT n l A m x1 x2 f n' l' A') (k : ∀ h', fS 364 h h' → (f = 0 → mD h' 364 n' l' A') → Q (some (.int (nI f))) h') : ex_S yX12_twist mX12_twist (d + 2) [.ref 168, .int x1, .int x2] h bc bs Q := by
  obtain ⟨K, D, hm, h40, h9, R⟩ := X
  have hA := fun e he => R.A100 (e := e) he
  have no : f = 5 → Q (some (.int 5)) h := fun e => by
    have := k h (fS_refl _ h) (fun z => absurd z (by omega))
    rw [e] at this
    exact this
  have l170 : ah_i h 170 ((364 : Int32).toNatClampNeg) = nI n := D.1
  have l171 : ah_i h 171 ((364 : Int32).toNatClampNeg) = nI l := D.2.1
  have i364 : ix 364 368 := ix364
  have app : ∀ (h' : AH) (s x y z n0 l0 : Nat) (B : Nat → Nat), sp h' → mD h' 364 n0 l0 B → n0 < 40 → s < 4 → (∀ h2, fS 364 h' h2 → mD h2 364 (n0 + 1) l0 (knk s n0 B x y z) → Q (some (.int 0)) h2) → ex_G mX12_twist (d + 2) 169 [.ref 168, .retAddr 0, .int (nI s), .retAddr 0, .int (nI x), .int (nI y), .int (nI z)] [] h' bc bs Q := by
    intro h' s x y z n0 l0 B K' D' c40 hs kk
    refine X12_twist_169 ?_
    rcases (show s = 0 ∨ s = 1 ∨ s = 2 ∨ s = 3 by omega) with e | e | e | e
    · subst e
      exact ⟨fun w => absurd rfl w, fun _ => ⟨o168 K', m_appD (s := 364) K' (by decide) D' c40 (fun h2 F2 D2 => ⟨rfl, kk h2 F2 D2⟩)⟩⟩
    · subst e
      exact ⟨fun _ => ⟨fun w => absurd rfl w, fun _ => ⟨o168 K', m_appD (s := 364) K' (by decide) D' c40 (fun h2 F2 D2 => ⟨rfl, kk h2 F2 D2⟩)⟩⟩, fun w => absurd w (by decide)⟩
    · subst e
      exact ⟨fun _ => ⟨fun _ => ⟨fun w => absurd rfl w, fun _ => ⟨o168 K', m_appD (s := 364) K' (by decide) D' c40 (fun h2 F2 D2 => ⟨rfl, kk h2 F2 D2⟩)⟩⟩, fun w => absurd w (by decide)⟩, fun w => absurd w (by decide)⟩
    · subst e
      exact ⟨fun _ => ⟨fun _ => ⟨fun _ => ⟨o168 K', m_appD (s := 364) K' (by decide) D' c40 (fun h2 F2 D2 => ⟨rfl, kk h2 F2 D2⟩)⟩, fun w => absurd w (by decide)⟩, fun w => absurd w (by decide)⟩, fun w => absurd w (by decide)⟩
  have key : ∀ u : Nat, (u = 0 ↔ x1 ≠ m1) → u < 2 → ex_G mX12_twist (d + 2) 10 [.ref 168, .int x1, .int x2, .retAddr 0, .retAddr 0, .retAddr 0, .retAddr 0] [.int (nI u)] h bc bs Q := by
    intro u hu hu2
    have un : (nI u = 0) ↔ u = 0 := nI_eq (b := 0) (by omega) (by omega)
    have next : ¬ ((x1 = m1 ∧ l = 0) ∨ (x1 ≠ m1 ∧ ¬ ix x1 (4 * n))) → ex_G mX12_twist (d + 2) 42 [.ref 168, .int x1, .int x2, .int (nI u), .retAddr 0, .retAddr 0, .retAddr 0] [] h bc bs Q := by
      intro ok1
      refine X12_twist_42 ⟨fun w => ⟨o168 K, 170, r168_2 K, (s170 K _).mpr i364, ?_⟩, fun w => no (mvT_no M (Or.inl ((in03 h).mp w)) h40)⟩
      have i4 : ix x2 4 := Classical.not_not.mp (fun z => w ((in03 h).mpr z))
      have ok : ¬ (¬ ix x2 4 ∨ (x1 = m1 ∧ l = 0) ∨ (x1 ≠ m1 ∧ ¬ ix x1 (4 * n))) := by
        rintro (q | q)
        · exact q i4
        · exact ok1 q
      have c40 : nI n = 40 ↔ n = 40 := nI_eq (b := 40) (by omega) (by omega)
      rw [l170, c40, un]
      refine ⟨fun n40 => ⟨fun u0 => ?_, fun u0 => ?_⟩, fun n40 => ?_⟩
      · obtain ⟨s, e, y, z, hs, eb, he, ea, fy, fz, ef, e1, e2, e3⟩ := mvT_e M ok (by omega) (hu.mp u0)
        subst ea
        have hml := R.lt he
        rw [arcV K D h40 he]
        refine ⟨arcC K h40 he, X12_twist_92 ⟨fun _ => X12_twist_108 ⟨o168 K, m_freeX K D h40 hA fy m1p (fun h1 F1 => ⟨_, rfl, fun _ => ⟨o168 (sp_fr K F1), ?_⟩, fun w => absurd (un.mpr u0) w⟩)⟩, fun w => absurd (un.mpr u0) w⟩⟩
        have K1 := sp_fr K F1
        have D1 := mD_sc D F1 (by decide)
        refine m_freeX K1 D1 h40 hA fz (nI_1 y) (fun h2 F2 => ⟨_, rfl, X12_twist_131 ⟨fun _ => ⟨o168 (sp_fr K1 F2), 173, r168_5 (sp_fr K1 F2), 176, r168_10 (sp_fr K1 F2), ?_⟩, fun w => absurd (un.mpr u0) w⟩⟩)
        have K2 := sp_fr K1 F2
        have D2 := mD_sc D1 F2 (by decide)
        have hm2 : ah_i h2 176 e = nI (m e) := by rw [fr_i F2 176 (by decide), fr_i F1 176 (by decide)]; exact hm e he
        have e58 : (58240 : Int32) + nI (m e) = nI (58240 + m e) := nI_add 58240 (m e)
        rw [s176 K2, ix_nI (by omega), nI_clamp (by omega), hm2, e58, t173 K2, ix_nI (by omega), nI_clamp (by omega)]
        refine ⟨by omega, by omega, fun h6 e6 => ?_⟩
        have a1 := m_putX D2 (x := m e) (by omega) z
        rw [← e6] at a1
        rw [eb]
        refine app h6 s (A e) y z n l _ (fS_sp K2 a1.1) a1.2 (by omega) hs (fun h7 F7 D7 => ?_)
        have fin := k h7 (fS_trans (fS_sc F1 (by decide)) (fS_trans (fS_sc F2 (by decide)) (fS_trans a1.1 F7))) (fun _ => by rw [e1, e2, e3]; exact D7)
        rw [ef] at fin
        exact fin
      · have ha : x1 = m1 := Classical.not_not.mp (fun w => u0 (hu.mpr w))
        obtain ⟨s, x, y, hs, eb, hl, fx, fy, ef, e1, e2, e3⟩ := mvT_l M ok (by omega) ha
        have un0 : ¬ nI u = 0 := fun w => u0 (un.mp w)
        refine m_freeX K D h40 hA fx m1p (fun h1 F1 => ⟨_, rfl, X12_twist_92 ⟨fun w => absurd w un0, fun _ => X12_twist_108 ⟨o168 (sp_fr K F1), ?_⟩⟩⟩)
        have K1 := sp_fr K F1
        have D1 := mD_sc D F1 (by decide)
        refine m_freeX K1 D1 h40 hA fy (nI_1 x) (fun h2 F2 => ⟨_, rfl, fun w => absurd w un0, fun _ => X12_twist_131 ⟨fun w => absurd w un0, fun _ => ⟨o168 (sp_fr K1 F2), 171, r168_3 (sp_fr K1 F2), (s171 (sp_fr K1 F2) _).mpr i364, (t171 (sp_fr K1 F2) _).mpr i364, fun h11 e11 => ?_⟩⟩⟩)
        have K2 := sp_fr K1 F2
        have D2 := mD_sc D1 F2 (by decide)
        have l2 : ah_i h2 171 ((364 : Int32).toNatClampNeg) = nI l := D2.2.1
        have el : nI l - 1 = nI (l - 1) := pk_sub (a := l) (b := 1) (by omega)
        rw [l2, el] at e11
        have e11' : h11 = ah_si h2 171 364 (nI (l - 1)) := e11
        have F3 : fS 364 h2 h11 := by rw [e11']; exact ⟨fr_si (fr_refl _ _) (by decide), fun t ht => sl_171 ht⟩
        have D3 : mD h11 364 n (l - 1) A := by
          rw [e11']
          refine ⟨?_, ?_, ?_, ?_⟩
          · rw [i_si_n _ _ _ _ _ (by decide)]; exact D2.1
          · rw [i_si_s, u1_s]
          · rw [i_si_n _ _ _ _ _ (by decide)]; exact D2.2.2.1
          · rw [i_si_n _ _ _ _ _ (by decide)]; exact D2.2.2.2
        rw [eb]
        refine app h11 s x y x n (l - 1) _ (fS_sp K2 F3) D3 (by omega) hs (fun h7 F7 D7 => ?_)
        have fin := k h7 (fS_trans (fS_sc F1 (by decide)) (fS_trans (fS_sc F2 (by decide)) (fS_trans F3 F7))) (fun _ => by rw [e1, e2, e3]; exact D7)
        rw [ef] at fin
        exact fin
      · have e := mvT_full M ok (by omega)
        have := k h (fS_refl _ h) (fun z => absurd z (by omega))
        rw [e] at this
        exact this
    have l0 : nI l = 0 ↔ l = 0 := nI_eq (b := 0) (by omega) (by omega)
    refine X12_twist_10 ⟨fun u0 => ⟨o168 K, endC K x1, fun w => next ?_, fun w => no (mvT_no M (Or.inr (Or.inr ⟨hu.mp (un.mp u0), (endV K D h40 x1).mp w⟩)) h40)⟩, fun u0 => ⟨o168 K, 171, r168_3 K, (s171 K _).mpr i364, ?_⟩⟩
    · rintro (⟨q1, q2⟩ | ⟨q1, q2⟩)
      · exact hu.mp (un.mp u0) q1
      · exact w ((endV K D h40 x1).mpr q2)
    · have ha : x1 = m1 := Classical.not_not.mp (fun w => u0 (un.mpr (hu.mpr w)))
      rw [l171, l0]
      refine ⟨fun w => next ?_, fun w => no (mvT_no M (Or.inr (Or.inl ⟨ha, w⟩)) h40)⟩
      rintro (⟨q1, q2⟩ | ⟨q1, q2⟩)
      · exact w q2
      · exact q1 ha
  exact X12_twist_e (X12_twist_0 ⟨fun w => key 0 ⟨fun _ => w, fun _ => rfl⟩ (by decide), fun w => key 1 ⟨fun z => absurd z (by decide), fun z => absurd w z⟩ (by decide)⟩)
theorem or01 : ∀ c, c < 2 → nI c ||| (0 : Int32) = nI c ∧ nI c ||| (1 : Int32) = nI 1 := by decide
theorem m_isOfFace {a b : Nat} (K : sp h) (hm : ∀ e, e < 4 * n → ah_i h 176 e = nI (m e)) (h40 : n ≤ 40) (R : Pr n A m) (ha : a < 4 * n) (hb : b < 4 * n) (k : ∀ c, c < 2 → (c = 1 ↔ ob (fun e => cn (m e) 3) a b) → Q (some (.int (nI c))) h) : ex_S yX12_isOfFace mX12_isOfFace (d + 2) [.ref 168, .int (nI a), .int (nI b)] h bc bs Q := by
  have hl := fun e he => R.lt (e := e) he
  have P := R.pmt 3
  obtain ⟨p, hp, hpn⟩ := isP_ex P ha
  have lt := fun j => it_lt P ha j
  have p0 := hp.1
  have main : ∀ c0, c0 < 2 → (c0 = 1 ↔ a = b) → ex_G mX12_isOfFace (d + 2) 18 [.ref 168, .int (nI a), .int (nI b), .int (nI c0), .int (nI (cn (m a) 3))] [] h bc bs Q := by
    intro c0 hc0 e0
    refine lp (σ := Nat) (s := c0) (p - 1) (fun i c => c < 2 ∧ (c = 1 ↔ ∃ j, j ≤ i ∧ it (fun e => cn (m e) 3) j a = b)) (fun i c => ex_G mX12_isOfFace (d + 2) 18 [.ref 168, .int (nI a), .int (nI b), .int (nI c), .int (nI (it (fun e => cn (m e) 3) (i + 1) a))] [] h bc bs Q) ⟨hc0, ?_⟩ ?_ ?_
    · rw [e0]
      refine ⟨fun q => ⟨0, Nat.le_refl 0, q⟩, ?_⟩
      rintro ⟨j, hj, q⟩
      have : j = 0 := by omega
      subst this
      exact q
    · rintro i c hi ⟨hc, ec⟩ nx
      have ne := hp.2.2 (i + 1) (by omega) (by omega)
      have l1 := lt (i + 1)
      have nf := nfV K hm h40 hl l1
      have e2 : cn (m (it (fun e => cn (m e) 3) (i + 1) a)) 3 = it (fun e => cn (m e) 3) (i + 1 + 1) a := (it_s (fun e => cn (m e) 3) (i + 1) a).symm
      have l2 := lt (i + 1 + 1)
      refine X12_isOfFace_18 ?_
      rw [nI_eq (by omega) (by omega), nI_eq (by omega) (by omega)]
      refine ⟨fun q => absurd q ne, fun _ => ⟨fun w => ?_, fun w => ?_⟩⟩
      · intro x4 e4
        rw [(or01 c hc).1] at e4
        subst e4
        refine ⟨o168 K, nfC K h40 l1, fun x7 e7 => ?_⟩
        rw [nf, e2] at e7
        subst e7
        refine nx c ⟨hc, ?_⟩
        rw [ec]
        refine ⟨fun ⟨j, hj, q⟩ => ⟨j, by omega, q⟩, fun ⟨j, hj, q⟩ => ⟨j, ?_, q⟩⟩
        by_cases z : j = i + 1
        · subst z; exact absurd q w
        · omega
      · intro x8 e8
        rw [(or01 c hc).2] at e8
        subst e8
        refine ⟨o168 K, nfC K h40 l1, fun x7 e7 => ?_⟩
        rw [nf, e2] at e7
        subst e7
        exact nx 1 ⟨by decide, fun _ => ⟨i + 1, by omega, w⟩, fun _ => rfl⟩
    · rintro c ⟨hc, ec⟩
      have e1 : it (fun e => cn (m e) 3) (p - 1 + 1) a = a := by rw [show p - 1 + 1 = p by omega]; exact hp.2.1
      refine X12_isOfFace_18 ?_
      rw [e1]
      refine ⟨fun _ => ⟨?_, k c hc ?_⟩, fun w => absurd rfl w⟩
      · rcases (show c = 0 ∨ c = 1 by omega) with q | q
        · subst q; exact Or.inl rfl
        · subst q; exact Or.inr rfl
      · rw [ec, ob_p hp]
        exact ⟨fun ⟨j, hj, q⟩ => ⟨j, by omega, q⟩, fun ⟨j, hj, q⟩ => ⟨j, by omega, q⟩⟩
  refine X12_isOfFace_e (X12_isOfFace_0 ?_)
  rw [nI_eq (by omega) (by omega)]
  refine ⟨fun w => ⟨o168 K, nfC K h40 ha, fun x4 e4 => ?_⟩, fun w => ⟨o168 K, nfC K h40 ha, fun x4 e4 => ?_⟩⟩
  · rw [nfV K hm h40 hl ha] at e4
    subst e4
    exact main 0 (by decide) ⟨fun z => absurd z (by decide), fun z => absurd z w⟩
  · rw [nfV K hm h40 hl ha] at e4
    subst e4
    exact main 1 (by decide) ⟨fun _ => w, fun _ => rfl⟩
theorem m_poke {f n' l' : Nat} {A' : Nat → Nat} (X : MC h n l A m) (M : mvK n l A m x1 x2 x3 f n' l' A') (k : ∀ h', fS 364 h h' → (f = 0 → mD h' 364 n' l' A') → Q (some (.int (nI f))) h') : ex_S yX12_poke mX12_poke (d + 3) [.ref 168, .int x1, .int x2, .int x3] h bc bs Q := by
  obtain ⟨K, D, hm, h40, h9, R⟩ := X
  have hA := fun e he => R.A100 (e := e) he
  have no : NK n A m x1 x2 x3 → Q (some (.int 5)) h := fun q => by
    have e := mvK_no M q h40
    have := k h (fS_refl _ h) (fun z => absurd z (by omega))
    rw [e] at this
    exact this
  have l170 : ah_i h 170 ((364 : Int32).toNatClampNeg) = nI n := D.1
  have i364 : ix 364 368 := ix364
  refine X12_poke_e (X12_poke_0 ⟨o168 K, endC K _, fun w => no (Or.inl ((endV K D h40 _).mp w)), fun w1 => ⟨endC K _, fun w => no (Or.inr (Or.inl ((endV K D h40 _).mp w))), fun w2 => ⟨fun w => no (Or.inr (Or.inr (Or.inl ((in0_1 h).mp w)))), fun w3 => ?_⟩⟩⟩)
  have i1 : ix x1 (4 * n) := Classical.not_not.mp (fun w => w1 ((endV K D h40 _).mpr w))
  have i2 : ix x2 (4 * n) := Classical.not_not.mp (fun w => w2 ((endV K D h40 _).mpr w))
  have i3 : ix x3 2 := Classical.not_not.mp (fun w => w3 ((in0_1 h).mpr w))
  obtain ⟨e, he, ea⟩ := ix_of i1 (by omega)
  obtain ⟨g, hg, eb⟩ := ix_of i2 (by omega)
  have he' := R.lt he
  have hg' := R.lt hg
  have qe := hA e he
  have qg := hA g hg
  rw [ea, eb, arcV K D h40 he, arcV K D h40 hg, nI_eq (by omega) (by omega)]
  refine ⟨arcC K h40 he, arcC K h40 hg, fun w => no (Or.inr (Or.inr (Or.inr ⟨e, g, he, hg, ea, eb, Or.inl w⟩))), fun ne => m_isOfFace K hm h40 R he hg (fun c hc ec => ⟨_, rfl, fun wc => ⟨o168 K, 170, r168_2 K, (s170 K _).mpr i364, ?_⟩, fun wc => ?_⟩)⟩
  · have ow : ob (fun e => cn (m e) 3) e g := ec.mp (by
      by_cases q : c = 1
      · exact q
      · have : c = 0 := by omega
        subst this
        exact absurd rfl wc)
    have ok : ¬ NK n A m x1 x2 x3 := by
      rintro (q | q | q | ⟨e', g', he2, hg2, ea', eb', q⟩)
      · exact q i1
      · exact q i2
      · exact q i3
      · rw [ea, nI_eq (by omega) (by omega)] at ea'
        rw [eb, nI_eq (by omega) (by omega)] at eb'
        subst ea'
        subst eb'
        rcases q with q | q
        · exact ne q
        · exact q ow
    have c38 : nI n ≤ 38 ↔ n ≤ 38 := nI_leI (b := 38) (by omega) (by omega)
    rw [l170, c38]
    refine ⟨fun n38 => ⟨arcC K h40 he, fun x18 e18 => ⟨arcC K h40 hg, fun x20 e20 => ?_⟩⟩, fun n38 => ?_⟩
    · obtain ⟨e', g', s, p, q, r, t, he2, hg2, ea', eb', hs, ec', fp_, fq, fr_, ft, ef, e1, e2, e3⟩ := mvK_y M ok n38
      rw [ea, nI_eq (by omega) (by omega)] at ea'
      rw [eb, nI_eq (by omega) (by omega)] at eb'
      subst ea'
      subst eb'
      rw [arcV K D h40 he] at e18
      rw [arcV K D h40 hg] at e20
      subst e18
      subst e20
      refine m_freeX K D h40 hA fp_ m1p (fun h1 F1 => ⟨_, rfl, o168 (sp_fr K F1), ?_⟩)
      have K1 := sp_fr K F1
      have D1 := mD_sc D F1 (by decide)
      refine m_freeX K1 D1 h40 hA fq (nI_1 p) (fun h2 F2 => ⟨_, rfl, o168 (sp_fr K1 F2), ?_⟩)
      have K2 := sp_fr K1 F2
      have D2 := mD_sc D1 F2 (by decide)
      refine m_freeX K2 D2 h40 hA fr_ (nI_1 q) (fun h3 F3 => ⟨_, rfl, o168 (sp_fr K2 F3), ?_⟩)
      have K3 := sp_fr K2 F3
      have D3 := mD_sc D2 F3 (by decide)
      refine m_freeX K3 D3 h40 hA ft (nI_1 r) (fun h4 F4 => ⟨_, rfl, o168 (sp_fr K3 F4), 173, r168_5 (sp_fr K3 F4), 176, r168_10 (sp_fr K3 F4), ?_⟩)
      have K4 := sp_fr K3 F4
      have D4 := mD_sc D3 F4 (by decide)
      have hm4 : ∀ e, e < 4 * n → ah_i h4 176 e = nI (m e) := fun e he => by rw [fr_i F4 176 (by decide), fr_i F3 176 (by decide), fr_i F2 176 (by decide), fr_i F1 176 (by decide)]; exact hm e he
      have e58 : (58240 : Int32) + nI (m e) = nI (58240 + m e) := nI_add 58240 (m e)
      have g58 : (58240 : Int32) + nI (m g) = nI (58240 + m g) := nI_add 58240 (m g)
      rw [s176 K4, ix_nI (by omega), nI_clamp (by omega), hm4 e he, e58, t173 K4, ix_nI (by omega), nI_clamp (by omega)]
      refine ⟨by omega, by omega, fun h6 e6 => ?_⟩
      have a1 := m_putX D4 (x := m e) (by omega) q
      rw [← e6] at a1
      have K6 := fS_sp K4 a1.1
      have hm6 : ah_i h6 176 g = nI (m g) := by rw [fr_i a1.1.1 176 (by decide)]; exact hm4 g hg
      rw [s176 K6, ix_nI (by omega), nI_clamp (by omega), hm6, g58, t173 K6, ix_nI (by omega), nI_clamp (by omega)]
      refine ⟨by omega, by omega, fun h7 e7 => ?_⟩
      have a2 := m_putX a1.2 (x := m g) (by omega) t
      rw [← e7] at a2
      have K7 := fS_sp K6 a2.1
      have Fa : fS 364 h h7 := fS_trans (fS_sc F1 (by decide)) (fS_trans (fS_sc F2 (by decide)) (fS_trans (fS_sc F3 (by decide)) (fS_trans (fS_sc F4 (by decide)) (fS_trans a1.1 a2.1))))
      have fin : ∀ h', fS 364 h h' → mD h' 364 (n + 2) l A' → Q (some (.int 0)) h' := fun h' F D' => by
        have := k h' F (fun _ => by rw [e1, e2]; exact D')
        rw [ef] at this
        exact this
      rw [ec']
      rcases (show s = 0 ∨ s = 1 by omega) with es | es
      · subst es
        refine ⟨fun z => absurd rfl z, fun _ => m_appD (s := 364) K7 (by decide) a2.2 (by omega) (fun h8 F8 D8 => ⟨rfl, o168 (fS_sp K7 F8), m_appD (s := 364) (fS_sp K7 F8) (by decide) D8 (by omega) (fun h9 F9 D9 => ⟨rfl, fin h9 (fS_trans Fa (fS_trans F8 F9)) ?_⟩)⟩)⟩
        rw [e3]
        exact D9
      · subst es
        refine ⟨fun _ => m_appD (s := 364) K7 (by decide) a2.2 (by omega) (fun h8 F8 D8 => ⟨rfl, o168 (fS_sp K7 F8), m_appD (s := 364) (fS_sp K7 F8) (by decide) D8 (by omega) (fun h9 F9 D9 => ⟨rfl, fin h9 (fS_trans Fa (fS_trans F8 F9)) ?_⟩)⟩), fun z => absurd z (by decide)⟩
        rw [e3]
        exact D9
    · have e := mvK_full M ok n38
      have := k h (fS_refl _ h) (fun z => absurd z (by omega))
      rw [e] at this
      exact this
  · refine no (Or.inr (Or.inr (Or.inr ⟨e, g, he, hg, ea, eb, Or.inr (fun o => ?_)⟩)))
    have c1 := ec.mpr o
    subst c1
    exact absurd wc (by decide)
theorem m_smooth {f n' l' : Nat} {A' : Nat → Nat} (X : MC h n l A m) (M : mvM n l A x1 x2 f n' l' A') (k : ∀ h', fS 364 h h' → (f = 0 → mD h' 364 n' l' A') → Q (some (.int (nI f))) h') : ex_S yX12_smooth mX12_smooth (d + 1) [.ref 168, .int x1, .int x2] h bc bs Q := by
  obtain ⟨K, D, hm, h40, h9, R⟩ := X
  have hA := fun e he => R.A100 (e := e) he
  have no : (¬ ix x1 n ∨ ¬ ix x2 2) → Q (some (.int 5)) h := fun q => by
    have e : f = 5 := by
      rcases M with ⟨-, e⟩ | ⟨c, s, A1, l1, y, z, hc, ea, hs, eb, -⟩
      · exact e
      · rcases q with q | q
        · exact absurd (by rw [ea, ix_nI (by omega)]; exact hc) q
        · exact absurd (by rw [eb, ix_nI (by omega)]; exact hs) q
    have := k h (fS_refl _ h) (fun z => absurd z (by omega))
    rw [e] at this
    exact this
  have l170 : ah_i h 170 ((364 : Int32).toNatClampNeg) = nI n := D.1
  have i364 : ix 364 368 := ix364
  refine X12_smooth_e (X12_smooth_0 ⟨o168 K, 170, r168_2 K, (s170 K _).mpr i364, ?_⟩)
  rw [l170]
  have inn_ : X12_in_V (Int32.toInt64 x1) 0 (Int32.toInt64 (nI n - 1)) h = 0 ↔ ¬ ix x1 n := inx (by omega) h
  refine ⟨fun w => no (Or.inl (inn_.mp w)), fun w => ⟨fun w2 => ?_, fun w2 => no (Or.inr ((in0_1 h).mp w2))⟩⟩
  have i1 : ix x1 n := Classical.not_not.mp (fun z => w (inn_.mpr z))
  have i2 : ix x2 2 := Classical.not_not.mp (fun z => w2 ((in0_1 h).mpr z))
  rcases M with ⟨q, -⟩ | ⟨c, s, A1, l1, y, z, hc, ea, hs, eb, eA, el, ey, ez, ef, e1, e2, e3⟩
  · rcases q with q | q
    · exact absurd i1 q
    · exact absurd i2 q
  · subst ea
    subst eb
    have c4 : (4 : Int32) * nI c = nI (4 * c) := pk_mul 4 c
    have t1 : nI (4 * c) + 1 = nI (4 * c + 1) := nI_add (4 * c) 1
    have t2 : nI (4 * c) + 2 = nI (4 * c + 2) := nI_add (4 * c) 2
    have t3 : nI (4 * c) + 3 = nI (4 * c + 3) := nI_add (4 * c) 3
    have b0 : 4 * c < 4 * n := by omega
    have b1 : 4 * c + 1 < 4 * n := by omega
    have b2 : 4 * c + 2 < 4 * n := by omega
    have b3 : 4 * c + 3 < 4 * n := by omega
    have a0 := hA _ b0
    have a1 := hA _ b1
    have a3 := hA _ b3
    have jb := jl_le y z l1
    rw [c4, arcV K D h40 b0]
    have fin : ∀ h', fS 364 h h' → mD h' 364 n l' (jn y z A1) → ex_S yX12_takeOut mX12_takeOut d [.ref 168, .int 364, .int (nI c)] h' 0 0 (fun r h5 => r = none ∧ ah_o h5 168 12 ∧ X12_full_C 168 h5 ∧ Q (some (.int (X12_full_V 168 h5))) h5) := by
      intro h' F D'
      have K' := fS_sp K F
      refine m_takeOutD (s := 364) K' (by decide) D' h40 hc (fun h8 F8 D8 => ⟨rfl, o168 (fS_sp K' F8), fullC (fS_sp K' F8), ?_⟩)
      have jb2 : l1 ≤ l + 1 := by rw [el]; exact (jl_le _ _ l).2
      have fin := k h8 (fS_trans F F8) (fun _ => by rw [e1, e3]; exact D8)
      rw [fullV (fS_sp K' F8) D8 (by omega), ← ef]
      exact fin
    have hA1 : ∀ e, e < 4 * n → A1 e < 100 := by rw [eA]; exact jn_lt hA a0
    rcases (show s = 0 ∨ s = 1 by omega) with es | es
    · subst es
      simp only [if_pos] at eA el ey ez
      refine ⟨arcC K h40 b0, fun z => absurd rfl z, fun _ => X12_smooth_56 ⟨o168 K, ?_⟩⟩
      rw [t1, arcV K D h40 b1]
      refine ⟨arcC K h40 b1, o168 K, m_joinD (s := 364) K (by decide) D h40 hA a0 a1 (fun h7 F7 D7 => ⟨rfl, fun z => absurd rfl z, fun _ => X12_smooth_80 ⟨o168 (fS_sp K F7), ?_⟩⟩)⟩
      have K7 := fS_sp K F7
      rw [← eA, ← el] at D7
      rw [c4, t2, arcV K7 D7 h40 b2, ← ey]
      refine ⟨arcC K7 h40 b2, fun z => absurd rfl z, fun _ => X12_smooth_97 ⟨o168 K7, ?_⟩⟩
      rw [t3, arcV K7 D7 h40 b3, ← ez]
      refine ⟨arcC K7 h40 b3, o168 K7, m_joinD (s := 364) K7 (by decide) D7 h40 hA1 (by rw [ey]; exact hA1 _ b2) (by rw [ez]; exact hA1 _ b3) (fun h8 F8 D8 => ⟨rfl, o168 (fS_sp K7 F8), fin h8 (fS_trans F7 F8) (by rw [e2]; exact D8)⟩)⟩
    · subst es
      simp only [if_neg (show ¬ 1 = 0 by decide)] at eA el ey ez
      refine ⟨arcC K h40 b0, fun _ => X12_smooth_56 ⟨o168 K, ?_⟩, fun z => absurd z (by decide)⟩
      rw [t3, arcV K D h40 b3]
      refine ⟨arcC K h40 b3, o168 K, m_joinD (s := 364) K (by decide) D h40 hA a0 a3 (fun h7 F7 D7 => ⟨rfl, fun _ => X12_smooth_80 ⟨o168 (fS_sp K F7), ?_⟩, fun z => absurd z (by decide)⟩)⟩
      have K7 := fS_sp K F7
      rw [← eA, ← el] at D7
      rw [c4, t1, arcV K7 D7 h40 b1, ← ey]
      refine ⟨arcC K7 h40 b1, fun _ => X12_smooth_97 ⟨o168 K7, ?_⟩, fun z => absurd z (by decide)⟩
      rw [t2, arcV K7 D7 h40 b2, ← ez]
      refine ⟨arcC K7 h40 b2, o168 K7, m_joinD (s := 364) K7 (by decide) D7 h40 hA1 (by rw [ey]; exact hA1 _ b1) (by rw [ez]; exact hA1 _ b2) (fun h8 F8 D8 => ⟨rfl, o168 (fS_sp K7 F8), fin h8 (fS_trans F7 F8) (by rw [e2]; exact D8)⟩)⟩
theorem m_change {f n' l' kk : Nat} {A' : Nat → Nat} (X : MC h n l A m) (hk : kk < 4) (M : mvC n l A kk x1 f n' l' A') (k : ∀ h', fS 364 h h' → (f = 0 → mD h' 364 n' l' A') → Q (some (.int (nI f))) h') : ex_S yX12_rotate mX12_rotate (d + 1) [.ref 168, .int 364, .int x1, .int (nI kk)] h bc bs Q := by
  obtain ⟨K, D, hm, h40, h9, R⟩ := X
  rcases M with ⟨q, e⟩ | ⟨c, hc, ea, ef, e1, e2, e3⟩
  · refine m_rotate_no (s := 364) K (by decide) D.1 h40 q _ ?_
    have := k h (fS_refl _ h) (fun z => absurd z (by omega))
    rw [e] at this
    exact this
  · subst ea
    refine m_rotateD (s := 364) K (by decide) D h40 hc hk (fun h' F D' => ?_)
    have := k h' F (fun _ => by rw [e1, e2, e3]; exact D')
    rw [ef] at this
    exact this
end MMOVE2
