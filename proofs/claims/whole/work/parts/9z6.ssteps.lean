/-! search, goOn, searched. -/
def DONE3 (h h' : AH) (S : Nat → Int32) (len : Nat) : Prop := ∃ W' N' B', R0 h' W' N' B' S len ∧ SC h' W' ∧ ah_n h ≤ ah_n h' ∧ ah_n h' ≤ ah_n h + 303
def ST3 (yc : MethodName) (mc : MM) (ym : MethodName) (mm : MM) (dc dm : Nat) (args : List Value) (h : AH) (bc bs : Nat) (S : Nat → Int32) (len : Nat) : Prop :=
  ex_S yc mc dc (.ref 0 :: args) h bc bs (fun r h1 => ∃ v : Int32, r = some (.int v) ∧ ex_S ym mm dm (.ref 168 :: args) h1 0 0 (fun r' h2 => r' = some (.int v) ∧ DONE3 h h2 S len))
def ST3L (yc : MethodName) (mc : MM) (ym : MethodName) (mm : MM) (dc dm : Nat) (args : List Value) (h : AH) (bc bs : Nat) (S : Nat → Int32) (len : Nat) : Prop :=
  ex_S yc mc dc (.ref 0 :: args) h bc bs (fun r h1 => ∃ v : Int64, r = some (.long v) ∧ ex_S ym mm dm (.ref 168 :: args) h1 0 0 (fun r' h2 => r' = some (.long v) ∧ DONE3 h h2 S len))
section SSTEPS
variable {h h0 h1 h2 h' : AH} {d bc bs : Nat} {Q : Option Value → AH → Prop} {W W' : Nat → Nat} {N : Nat} {B : Nat → Nat} {S : Nat → Int32} {len : Nat} {u c cu s e f n l : Nat} {A : Nat → Nat} {D : SD} {G : Nat → Nat → (Nat → Nat) → Prop} {st : Int32}
theorem DONE_3 (y : SC h W) (x : DONE2 h h' W S len) : DONE3 h h' S len := by
  obtain ⟨W', N', B', a, b, c, d1, d2⟩ := x
  exact ⟨W', N', B', a, SC_FS2 y a.2.1 d1 c b, d1, d2⟩
theorem ST_3 {yc : MethodName} {mc : MM} {ym : MethodName} {mm : MM} {dc dm : Nat} {args : List Value} (y : SC h W) (x : ST yc mc ym mm dc dm args h bc bs W S len) : ST3 yc mc ym mm dc dm args h bc bs S len := by
  refine ex_S.mono (fun r h1 q => ?_) x
  obtain ⟨v, e, z⟩ := q
  exact ⟨v, e, ex_S.mono (fun r' h2 q => ⟨q.1, DONE_3 y (DONE_2 q.2)⟩) z⟩
theorem ST_3L {yc : MethodName} {mc : MM} {ym : MethodName} {mm : MM} {dc dm : Nat} {args : List Value} (y : SC h W) (x : STL yc mc ym mm dc dm args h bc bs W S len) : ST3L yc mc ym mm dc dm args h bc bs S len := by
  refine ex_S.mono (fun r h1 q => ?_) x
  obtain ⟨v, e, z⟩ := q
  exact ⟨v, e, ex_S.mono (fun r' h2 q => ⟨q.1, DONE_3 y (DONE_2 q.2)⟩) z⟩
theorem ST2_3 {yc : MethodName} {mc : MM} {ym : MethodName} {mm : MM} {dc dm : Nat} {args : List Value} (y : SC h W) (x : ST2 yc mc ym mm dc dm args h bc bs W S len) : ST3 yc mc ym mm dc dm args h bc bs S len := by
  refine ex_S.mono (fun r h1 q => ?_) x
  obtain ⟨v, e, z⟩ := q
  exact ⟨v, e, ex_S.mono (fun r' h2 q => ⟨q.1, DONE_3 y q.2⟩) z⟩
theorem stepV {v : Int32} (h : AH) : X11_isStepCount_V v h = 0 ↔ ¬ ix v 5001 := by
  unfold X11_isStepCount_V ix
  have e5 : (5000 : Int32).toInt = 5000 := by decide
  have e0 : (0 : Int32).toInt = 0 := by decide
  by_cases a : v < 0
  · rw [if_pos a]
    rw [Int32.lt_iff_toInt_lt, e0] at a
    exact ⟨fun _ q => by omega, fun _ => rfl⟩
  · rw [if_neg a]
    rw [Int32.lt_iff_toInt_lt, e0] at a
    by_cases b : 5000 < v
    · rw [if_pos b]
      rw [Int32.lt_iff_toInt_lt, e5] at b
      exact ⟨fun _ q => by omega, fun _ => rfl⟩
    · rw [if_neg b]
      rw [Int32.lt_iff_toInt_lt, e5] at b
      exact ⟨fun q => absurd q (by decide), fun q => absurd ⟨by omega, by omega⟩ q⟩
theorem in5000 {v : Int32} (h : AH) : X12_in_V v.toInt64 0 5000 h = 0 ↔ ¬ ix v 5001 := by
  refine (in_rg (v := v) 0 5000 (by decide) (by decide) h).trans ?_
  unfold ix
  constructor <;> intro q p <;> exact q ⟨by omega, by omega⟩
theorem nSQ {a : Nat} (h1 : a ≠ 125 ∧ a ≠ 126 ∧ ¬ (130 ≤ a ∧ a ≤ 133) ∧ ¬ (136 ≤ a ∧ a ≤ 163)) : ¬ SQ a := by
  unfold SQ
  omega
theorem FMb_fms (K : sp h) (x : fms h h') : FMb h h' := FMb_FM (FM_fms K x)
/-- the relation behind a search -/
theorem DB3 (x : R0 h W N B S len) (F0 : fcs h h0) (hW : ∀ a, a < ah_n h → W' a = W a) (fb : FB W h0 h1) (v : Int32) (fm : FMb (cNo h1 v) h2) : R0 (mNo h2 v) W' N B S len := by
  have x0 := x
  obtain ⟨y, K, L, x2, x3, x4, ⟨x5, x6, x7⟩, x8, x9, x10⟩ := x
  have L0 := F0.2.2.2 L
  have fx : FX W h h1 := FX_trans (FX_fcs K L F0) (fun _ _ => rfl) (FX_FB L0 fb)
  have ec : ∀ a, a ≠ 0 → eqc h1 (cNo h1 v) a := fun a ha => ⟨rfl, f_sf_n _ _ _ _ _ ha, rfl, rfl, rfl, rfl⟩
  have ch : ∀ a, a ∉ Cscr → a < 216 → ¬ SQ a → a ≠ 0 → a ∉ Mscr → a ≠ 209 ∧ a ≠ 210 ∧ a ≠ 211 → eqc h h2 a := fun a a1 a2 a3 a4 a5 a6 => eqc_trans (F0.2.1 a a1) (eqc_trans (fb.2.1 a (Or.inl ⟨a2, a3⟩)) (eqc_trans (ec a a4) (fm.2.1 a a5 a6.1 a6.2.1 a6.2.2)))
  have c168 : ah_f (cNo h1 v) 168 = ah_f h 168 := by
    unfold cNo
    rw [f_sf_n _ _ _ _ _ (by decide), (fb.2.1 168 (Or.inl ⟨by decide, nSQ (by decide)⟩)).2.1, (F0.2.1 168 (by decide)).2.1]
  have f168 : ∀ k, k ≠ 9 → ¬ (49 ≤ k ∧ k ≤ 54) → ah_f h2 168 k = ah_f h 168 k := fun k k1 k2 => by rw [fm.2.2.2.1 k k1 k2, c168]
  have f018 : ah_f h2 0 18 = ah_f h 0 18 := by
    rw [(fm.2.1 0 (by decide) (by decide) (by decide) (by decide)).2.1]
    unfold cNo
    rw [f_sf_s, u1_n _ _ (by decide), (fb.2.1 0 (Or.inl ⟨by decide, nSQ (by decide)⟩)).2.1, (F0.2.1 0 (by decide)).2.1]
  refine D_X x0 hW fx v (FY_FMb fm) ?_ ?_ ?_
  · rw [f018, f168 60 (by decide) (by decide)]
    exact y.2.2.1
  · exact NU_eq x7 (ch 134 (by decide) (by decide) (nSQ (by decide)) (by decide) (by decide) (by decide)).2.1 (f168 59 (by decide) (by decide)) (ch 135 (by decide) (by decide) (nSQ (by decide)) (by decide) (by decide) (by decide)).2.2.1 (ch 212 (by decide) (by decide) (nSQ (by decide)) (by decide) (by decide) (by decide)).2.2.1
  · exact SPn_eq x9 (ch 32 (by decide) (by decide) (nSQ (by decide)) (by decide) (by decide) (by decide)).2.1 (f168 23 (by decide) (by decide))
theorem mscr168 {a : Nat} (h : a < 168) : a ∉ Mscr := fun q => by
  have := (by decide +kernel : ∀ a, a ∈ Mscr → 168 ≤ a) a q
  omega
theorem SC_end {v : Int32} (P : PVI NG c D cu s e 0) (ci : CI h1 W u c D cu s e 0 NG st) (fm : ah_n h2 = ah_n h1 ∧ (∀ a, a ∉ Mscr → ¬ (209 ≤ a ∧ a ≤ 212) → eqc (cNo h1 v) h2 a)) (b1 : ah_f h1 125 8 = 1) (b2 : ah_f h2 168 49 = 1) (mi : MSI h2 c D cu s e st) : SC (mNo h2 v) W := by
  have K2 : sp (mNo h2 v) := sp_fr (L := [168]) mi.1 (fr_sf (fr_refl _ h2) (by decide))
  have ez : ∀ a, a ≠ 168 → eqc h2 (mNo h2 v) a := fun a ha => ⟨rfl, f_sf_n _ _ _ _ _ ha, rfl, rfl, rfl, rfl⟩
  have ec : ∀ a, a ≠ 0 → eqc h1 (cNo h1 v) a := fun a ha => ⟨rfl, f_sf_n _ _ _ _ _ ha, rfl, rfl, rfl, rfl⟩
  have fk : ∀ k, k ≠ 0 → ah_f (mNo h2 v) 168 k = ah_f h2 168 k := fun k hk => by
    unfold mNo
    rw [f_sf_s, u1_n _ _ hk]
  have e1 : ∀ a, 125 ≤ a → a ≤ 163 → (a < 130 ∨ 135 < a) → eqc h1 (mNo h2 v) a := fun a a1 a2 _ => eqc_trans (ec a (by omega)) (eqc_trans (fm.2 a (mscr168 (by omega)) (by omega)) (ez a (by omega)))
  have e2 : ∀ a, 216 ≤ a → a < ah_n h1 → 1000 ≤ W a → eqc h1 (mNo h2 v) a := fun a a1 _ _ => eqc_trans (ec a (by omega)) (eqc_trans (fm.2 a (mscr_no a1) (by omega)) (ez a (by omega)))
  have hn : ah_n h1 ≤ ah_n (mNo h2 v) := by
    show ah_n h1 ≤ ah_n h2
    rw [fm.1]
    exact Nat.le_refl _
  refine ⟨u, SU_eq ci.2.1.1 hn (fun _ _ => rfl) (e1 126 (by decide) (by decide) (by decide)).2.2.2.2.2 e2, Or.inr ⟨by rw [(e1 125 (by decide) (by decide) (by decide)).2.1]; exact b1, (fk 49 (by decide)).trans b2, c, D, cu, s, e, st, P, CI_eq ci hn (fun _ _ => rfl) K2 e1 e2, MSI_eq mi (PVI_12 P).1 (PVI_12 P).2 K2 (fun k k1 _ => fk k (by omega)) (fun a a1 _ => (ez a (by omega)).2.2.1) (fun t _ _ => sl_of t rfl rfl rfl rfl)⟩⟩
theorem FMb_fy (fm : FMb (cNo h1 (nI 0)) h2) : ah_n h2 = ah_n h1 ∧ (∀ a, a ∉ Mscr → ¬ (209 ≤ a ∧ a ≤ 212) → eqc (cNo h1 (nI 0)) h2 a) := ⟨fm.1, fun a a1 a2 => fm.2.1 a a1 (by omega) (by omega) (by omega)⟩
theorem NG_f {j lim c' cu' s' g' e' f' : Nat} {D' : SD} (P : PVI NG c D cu s e 0) (R : RU NG lim j c D cu s 0 e 0 c' D' cu' s' g' e' f') : f' = 0 ∧ PVI NG c' D' cu' s' e' 0 := by
  have P' := RU_PVI j c D cu s 0 e 0 P R
  by_cases z : f' = 1
  · exact absurd (P'.2.2.2.2 z) (fun q => q)
  · have := P'.2.1.2
    have f0 : f' = 0 := by omega
    subst f0
    exact ⟨rfl, P'⟩
/-- what the reference sees behind the class's search -/
theorem see_FB (x : R0 h W N B S len) (F0 : fcs h h0) (fb : FB W h0 h1) (v : Int32) : ah_f (cNo h1 v) 168 = ah_f h 168 ∧ sp (cNo h1 v) ∧ (∀ t, sl h (cNo h1 v) t) ∧ ∀ a, 168 ≤ a → a < 216 → eqc h (cNo h1 v) a := by
  have ec : ∀ a, a ≠ 0 → eqc h1 (cNo h1 v) a := fun a ha => ⟨rfl, f_sf_n _ _ _ _ _ ha, rfl, rfl, rfl, rfl⟩
  have all : ∀ a, 168 ≤ a → a < 216 → eqc h (cNo h1 v) a := fun a a1 a2 => eqc_trans (F0.2.1 a (fun q => by
    have := (by decide +kernel : ∀ a, a ∈ Cscr → a < 125) a q
    omega)) (eqc_trans (fb.2.1 a (Or.inl ⟨a2, nSQ (by omega)⟩)) (ec a (by omega)))
  exact ⟨(all 168 (by decide) (by decide)).2.1, sp_fr (L := [0]) fb.2.2 (fr_sf (fr_refl _ h1) (by decide)), fun t => sl_of t (all 170 (by decide) (by decide)).2.2.1 (all 171 (by decide) (by decide)).2.2.1 (all 172 (by decide) (by decide)).2.2.1 (all 173 (by decide) (by decide)).2.2.1, all⟩
theorem st_goOn (x : R0 h W N B S len) (y : SC h W) (hmax : ah_n h + 1000 ≤ 10000000) (m : Int32) : ST3 yX11_goOn mX11_goOn yX12_goOn mX12_goOn (d + 6) (d + 5) [.int m] h (bc + 300) (bs + 10300) S len := by
  have K := x.2.1
  have sv := stepV (v := m) h
  refine X11_goOn_e (X11_goOn_0 ⟨fun z => ⟨o0 K, 125, r0_12 K, o125 K, fun b0 => ?_, fun b1 => ?_⟩, fun z => ⟨o0 K, c_no K 2 (by decide) ⟨_, rfl, _, rfl, ?_⟩⟩⟩)
  · refine c_f K 5 (by decide) (by decide) ⟨_, rfl, _, rfl, ?_⟩
    obtain ⟨q1, q3, q4, q5⟩ := see_f x (fcs_refl h) 5
    have iv := in5000 (v := m) (cF h 5)
    have b0' : ah_f (cF h 5) 168 49 = 0 := by
      rw [q1]
      obtain ⟨u, -, ⟨-, w⟩ | ⟨w, -⟩⟩ := y
      · exact w
      · rw [b0] at w
        exact absurd w (by decide)
    refine X12_goOn_e (X12_goOn_0 ⟨fun _ => ⟨o168 q4, fun _ => ⟨meC (f := 5) q4 (by decide), fun h5 e5 => ⟨rfl, ?_⟩⟩, fun w => absurd b0' w⟩, fun w => absurd (sv.mpr (iv.mp w)) z⟩)
    rw [e5.trans (meH (f := 5) q4 (by decide))]
    exact DONE_3 y (DONE_2 (D_f x (fcs_refl h) (by decide) (by decide) (fms_refl _)))
  · obtain ⟨u, su, ⟨w, -⟩ | ⟨w8, w49, c, D, cu, s, e, st, P, ci, mi⟩⟩ := y
    · exact absurd w b1
    have im : ix m 5001 := Classical.not_not.mp (fun w => z (sv.mpr w))
    obtain ⟨lim, hlim, rfl⟩ := ix_of im (by decide)
    refine c_go (d := d) (by omega) P ci (fun _ => rfl) (by omega) (fun h8 W' u' c' D' cu' s' g' e' f' j R hW fq ci' hu hn => ⟨_, rfl, o0 ci'.1, grC ci'.1 _, fun h12 e12 => ⟨_, rfl, ?_⟩⟩)
    have e12' : h12 = cNo h8 (nI 0) := e12
    rw [e12']
    obtain ⟨rfl, P'⟩ := NG_f P R
    obtain ⟨v1, v2, v3, v4⟩ := see_FB x (fcs_refl h) (FB_FQ fq) (nI 0)
    have iv := in5000 (v := nI lim) (cNo h8 (nI 0))
    have n49 : ah_f (cNo h8 (nI 0)) 168 49 = 1 := by rw [v1]; exact w49
    have mi8 : MSI (cNo h8 (nI 0)) c D cu s e st := MSI_eq mi (PVI_12 P).1 (PVI_12 P).2 v2 (fun k _ _ => by rw [v1]) (fun a a1 a2 => (v4 a (by omega) (by omega)).2.2.1) (fun t _ _ => v3 t)
    refine X12_goOn_e (X12_goOn_0 ⟨fun _ => ⟨o168 v2, fun w => absurd (n49.symm.trans w) (by decide), fun _ => ?_⟩, fun w => absurd im (iv.mp w)⟩)
    refine m_goes (G := NG) (v := 0) (d := d) (by omega) R P mi8 (Or.inl ⟨rfl, fun _ _ _ _ q => q⟩) (fun h6 fm i8 mi6 => ⟨_, rfl, o168 mi6.1, weC mi6.1 _, fun h10 e10 => ⟨rfl, ?_⟩⟩)
    rw [e10, weH]
    have fmb := FMb_FM fm
    have u100 := ci'.2.1.1.1
    exact ⟨W', N, B, DB3 x (fcs_refl h) hW (FB_FQ fq) (nI 0) fmb, SC_end P' ci' (FMb_fy fmb) (fq.2.2.2.1.trans w8) (fm.2.2.2.2.2.trans n49) mi6, by show ah_n h ≤ ah_n h6; rw [fm.1]; show ah_n h ≤ ah_n h8; omega, by show ah_n h6 ≤ _; rw [fm.1]; show ah_n h8 ≤ _; omega⟩
  · obtain ⟨q1, q3, q4, q5⟩ := see_no x (fcs_refl h) (-nI 2)
    have iv := in5000 (v := m) (cNo h (-nI 2))
    exact X12_goOn_e (X12_goOn_0 ⟨fun w => absurd (iv.mpr (sv.mp z)) w, fun _ => ⟨o168 q4, noC q4 _, fun h8 e8 => ⟨rfl, by rw [e8]; exact DONE_3 y (DONE_2 (D_no x (fcs_refl h) (-nI 2) (fms_refl _)))⟩⟩⟩)
theorem st_search (x : R0 h W N B S len) (y : SC h W) (hmax : ah_n h + 1000 ≤ 10000000) (p m : Int32) : ST3 yX11_search mX11_search yX12_search mX12_search (d + 6) (d + 5) [.int p, .int m] h (bc + 303) (bs + 10403) S len := by
  have K := x.2.1
  obtain ⟨h24, hN, hN2, hP⟩ := x.2.2.2.2.1
  have hv := hasP (p := p) hN h24
  have sv := stepV (v := m) h
  have bad : (¬ ix p N ∨ ¬ ix m 5001) → ex_S yX12_search mX12_search (d + 5) [.ref 168, .int p, .int m] (cNo h (-nI 2)) 0 0 (fun r' h2 => r' = some (.int (-nI 2)) ∧ DONE3 h h2 S len) := by
    intro nb
    obtain ⟨q1, q3, q4, q5⟩ := see_no x (fcs_refl h) (-nI 2)
    have iv := isP_ (h := cNo h (-nI 2)) (p := p) (N := N) (by rw [q1]; exact hN2) h24
    have iv2 := in5000 (v := m) (cNo h (-nI 2))
    have fin : X12_no_C 168 (-2) (cNo h (-nI 2)) ∧ ∀ h5, h5 = X12_no_H 168 (-2) (cNo h (-nI 2)) → (some (Value.int (X12_no_V 168 (-2) (cNo h (-nI 2)))) = some (.int (-nI 2)) ∧ DONE3 h h5 S len) := ⟨noC q4 _, fun h8 e8 => ⟨rfl, by rw [e8]; exact DONE_3 y (DONE_2 (D_no x (fcs_refl h) (-nI 2) (fms_refl _)))⟩⟩
    refine X12_search_e (X12_search_0 ⟨o168 q4, isPC q4 _, fun _ => fin, fun w => ⟨fun w2 => ?_, fun _ => fin⟩⟩)
    rcases nb with z | z
    · exact absurd (iv.mpr z) w
    · exact absurd (iv2.mpr z) w2
  refine X11_search_e (X11_search_0 ⟨o0 K, hasPC K p, fun z => c_no K 2 (by decide) ⟨_, rfl, _, rfl, bad (Or.inl (hv.mp z))⟩, fun z => ⟨fun z2 => ⟨7, r0_4 K, ?_⟩, fun z2 => c_no K 2 (by decide) ⟨_, rfl, _, rfl, bad (Or.inr (sv.mp z2))⟩⟩⟩)
  have ip : ix p N := Classical.not_not.mp (fun w => z (hv.mpr w))
  have im : ix m 5001 := Classical.not_not.mp (fun w => z2 (sv.mpr w))
  obtain ⟨p0, hp0, rfl⟩ := ix_of ip (by omega)
  obtain ⟨lim, hlim, rfl⟩ := ix_of im (by decide)
  have z00 : (nI 0 : Int32) ≤ 0 := by decide
  refine c_look (d := d + 1) x.2 hp0 (Or.inl rfl) (fun h8 n op F => ⟨_, rfl, fun w => absurd rfl w, fun _ => ⟨o0 (sp_fr K F), c_f (sp_fr K F) 3 (by decide) (by decide) ⟨_, rfl, _, rfl, ?_⟩⟩⟩) (fun h8 n l wh F l1 l2 LFh => ⟨_, rfl, fun _ => ⟨o0 (sp_fr K F), 7, r0_4 (sp_fr K F), o7 (sp_fr K F), ?_⟩, fun w => absurd w (by decide)⟩)
  · have Fc := fcs_fr F lkc7
    obtain ⟨q1, q3, q4, q5⟩ := see_f x Fc 3
    have hN6 : ah_f (cF h8 3) 168 6 = nI N := by rw [q1]; exact hN2
    have iv := isP_ (h := cF h8 3) (p := nI p0) (N := N) hN6 h24
    have iv2 := in5000 (v := nI lim) (cF h8 3)
    refine X12_search_e (X12_search_0 ⟨o168 q4, isPC q4 _, fun w => absurd ip (iv.mp w), fun _ => ⟨fun _ => ?_, fun w => absurd im (iv2.mp w)⟩⟩)
    refine m_open_open (d := d + 1) x.2 op q4 (q5 p0) (fun h' r r0 r4 G => ⟨_, rfl, fun w => absurd w ?_, fun _ => ⟨o168 (G.2.2.1 q4), meC (f := 3) (G.2.2.1 q4) (by decide), fun h12 e12 => ⟨rfl, by rw [e12.trans (meH (f := 3) (G.2.2.1 q4) (by decide))]; exact DONE_3 y (DONE_2 (D_f x Fc (by decide) (by decide) G))⟩⟩⟩)
    intro w'
    have := (nI_leI (b := 0) (by omega) (by omega)).mp w'
    omega
  · have Fc := fcs_fr F lkc7
    have K8 := sp_fr K F
    have h40 := wh.2.2.1
    have h9 := wh.2.2.2.1
    rw [l1, show (nI n ≤ (12 : Int32)) = (nI n ≤ nI 12) from rfl, nI_leI (by omega) (by omega)]
    refine ⟨fun le => ?_, fun gt => c_f K8 7 (by decide) (by decide) ⟨_, rfl, _, rfl, ?_⟩⟩
    · obtain ⟨u, su, y2⟩ := y
      obtain ⟨px1, px2, px3, -⟩ := (hP p0 hp0).2
      have hq1 : ah_q h8 1 p0 = some (B p0) := by rw [F.1.2.2.2]; exact (hP p0 hp0).1
      have gd : GDp n l (AN (ah_i h (B p0 + 2))) := ⟨le, h9, wh.2.2.2.2.2.2.2⟩
      have nl : ∀ j, B p0 + j ∉ lkc 7 := fun j q => by have := cscr_lt _ (lkc7 _ q); omega
      have C8 : cD h8 (B p0) n l (AN (ah_i h (B p0 + 2))) := cD_sc wh.2.2.2.2.2.1 F ⟨nl 0, nl 1, nl 2⟩
      have n8 : ah_n h8 = ah_n h := F.1.1
      refine ⟨125, r0_12 K8, 1, r0_0 K8, (s1 K8 _).mpr ((ix_nI (by omega)).mpr (by omega)), B p0, by rw [nI_clamp (by omega)]; exact hq1, o125 K8, ?_⟩
      refine c_begin (d := d) (W := W) (u := u) K8 (SU_fr su F) (pt_fr px3 F) px1 C8 gd (by omega) (fun h19 W1 u1_ hW1 fb1 b8 ci1 hu1 hn1 => ⟨rfl, ?_⟩)
      have u100 := ci1.2.1.1.1
      refine ⟨o0 ci1.1, 125, r0_12 ci1.1, o125 ci1.1, c_go (d := d) (by omega) (PVI_0 gd (fun q => q)) ci1 (fun _ => rfl) (by omega) (fun h23 W' u' c' D' cu' s' g' e' f' j R hW fq ci' hu hn => ⟨_, rfl, o0 ci'.1, grC ci'.1 _, fun h28 e28 => ⟨_, rfl, ?_⟩⟩)⟩
      have e28' : h28 = cNo h23 (nI 0) := e28
      rw [e28']
      have P0 : PVI NG 1 (fun _ => (n, l, AN (ah_i h (B p0 + 2)), 0, 0)) 0 0 0 0 := PVI_0 gd (fun q => q)
      obtain ⟨rfl, P'⟩ := NG_f P0 R
      have fb : FB W h8 h23 := FB_trans fb1 hW1 (FB_FQ fq)
      have hW' : ∀ a, a < ah_n h → W' a = W a := fun a ha => (hW a (by omega)).trans (hW1 a (by omega))
      obtain ⟨v1, v2, v3, v4⟩ := see_FB x Fc fb (nI 0)
      have hN6 : ah_f (cNo h23 (nI 0)) 168 6 = nI N := by rw [v1]; exact hN2
      have iv := isP_ (h := cNo h23 (nI 0)) (p := nI p0) (N := N) hN6 h24
      have iv2 := in5000 (v := nI lim) (cNo h23 (nI 0))
      refine X12_search_e (X12_search_0 ⟨o168 v2, isPC v2 _, fun w => absurd ip (iv.mp w), fun _ => ⟨fun _ => ?_, fun w => absurd im (iv2.mp w)⟩⟩)
      refine m_open_wholeF (d := d + 1) wh h24 v2 (v3 p0) (fun h7 G7 F7 g7 => ⟨_, rfl, fun _ => ⟨o168 (G7.2.2.1 v2), 170, r168_2 (G7.2.2.1 v2), ?_⟩, fun w => absurd z00 w⟩)
      have K7 := G7.2.2.1 v2
      have M7 := mD_sl (mD_sl wh.2.2.2.2.2.2.1 h40 (v3 p0)) h40 (G7.2.2.2.2 p0 (by omega))
      rw [nI_clamp (by omega), M7.1, show (nI n ≤ (12 : Int32)) = (nI n ≤ nI 12) from rfl, nI_leI (by omega) (by omega)]
      refine ⟨(s170 K7 _).mpr ((ix_nI (by omega)).mpr (by omega)), fun _ => ?_, fun w => absurd le w⟩
      refine m_begin (d := d + 1) K7 (by omega) M7 gd (fun h14 fm14 i14 b49 mi14 => ⟨rfl, o168 mi14.1, ?_⟩)
      refine m_goes (G := NG) (v := 0) (d := d) (by omega) R P0 mi14 (Or.inl ⟨rfl, fun _ _ _ _ q => q⟩) (fun h15 fm i8 mi6 => ⟨_, rfl, o168 mi6.1, weC mi6.1 _, fun h20 e20 => ⟨rfl, ?_⟩⟩)
      rw [e20, weH]
      have fmb : FMb (cNo h23 (nI 0)) h15 := FMb_trans (FMb_fms v2 G7) (FMb_trans fm14 (FMb_FM fm))
      have u100' := ci'.2.1.1.1
      exact ⟨W', N, B, DB3 x Fc hW' fb (nI 0) fmb, SC_end P' ci' (FMb_fy fmb) (fq.2.2.2.1.trans b8) (fm.2.2.2.2.2.trans b49) mi6, by show ah_n h ≤ ah_n h15; rw [fmb.1]; show ah_n h ≤ ah_n h23; omega, by show ah_n h15 ≤ _; rw [fmb.1]; show ah_n h23 ≤ _; omega⟩
    · obtain ⟨q1, q3, q4, q5⟩ := see_f x Fc 7
      have hN6 : ah_f (cF h8 7) 168 6 = nI N := by rw [q1]; exact hN2
      have iv := isP_ (h := cF h8 7) (p := nI p0) (N := N) hN6 h24
      have iv2 := in5000 (v := nI lim) (cF h8 7)
      refine X12_search_e (X12_search_0 ⟨o168 q4, isPC q4 _, fun w => absurd ip (iv.mp w), fun _ => ⟨fun _ => ?_, fun w => absurd im (iv2.mp w)⟩⟩)
      refine m_open_wholeF (d := d + 1) wh h24 q4 (q5 p0) (fun h7 G7 F7 g7 => ⟨_, rfl, fun _ => ⟨o168 (G7.2.2.1 q4), 170, r168_2 (G7.2.2.1 q4), ?_⟩, fun w => absurd z00 w⟩)
      have K7 := G7.2.2.1 q4
      have M7 := mD_sl (mD_sl wh.2.2.2.2.2.2.1 h40 (q5 p0)) h40 (G7.2.2.2.2 p0 (by omega))
      rw [nI_clamp (by omega), M7.1, show (nI n ≤ (12 : Int32)) = (nI n ≤ nI 12) from rfl, nI_leI (by omega) (by omega)]
      refine ⟨(s170 K7 _).mpr ((ix_nI (by omega)).mpr (by omega)), fun w => absurd w gt, fun _ => ⟨meC (f := 7) K7 (by decide), fun h22 e22 => ⟨rfl, ?_⟩⟩⟩
      rw [e22.trans (meH (f := 7) K7 (by decide))]
      exact DONE_3 y (DONE_2 (D_f x Fc (by decide) (by decide) G7))
end SSTEPS
