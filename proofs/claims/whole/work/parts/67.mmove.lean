/-! Moves on the reference's side: untwist, unpoke, slide, twist, poke, smooth. -/
def MC (h : AH) (n l : Nat) (A m : Nat → Nat) : Prop := sp h ∧ mD h 364 n l A ∧ (∀ e, e < 4 * n → ah_i h 176 e = nI (m e)) ∧ n ≤ 40 ∧ l ≤ 9 ∧ Pr n A m
section MMOVE
variable {h : AH} {d bc bs n l : Nat} {A m : Nat → Nat} {Q : Option Value → AH → Prop}
theorem arcV (K : sp h) (D : mD h 364 n l A) (h40 : n ≤ 40) {e : Nat} (he : e < 4 * n) : X12_arcAt_V 168 (nI e) h = nI (A e) := by
  unfold X12_arcAt_V
  have e1 : (58240 : Int32) + nI e = nI (58240 + e) := nI_add 58240 e
  rw [r168_5 K, Option.getD_some, e1, nI_clamp (by omega)]
  exact D.2.2.2 e he
theorem arcC (K : sp h) (h40 : n ≤ 40) {e : Nat} (he : e < 4 * n) : X12_arcAt_C 168 (nI e) h := by
  have e1 : (58240 : Int32) + nI e = nI (58240 + e) := nI_add 58240 e
  refine ⟨o168 K, 173, r168_5 K, ?_, trivial⟩
  rw [e1, s173 K, ix_nI (by omega)]
  omega
theorem endV (K : sp h) (D : mD h 364 n l A) (h40 : n ≤ 40) (a : Int32) : X12_isEnd_V 168 364 a h = nI 0 ↔ ¬ ix a (4 * n) := by
  unfold X12_isEnd_V
  have e : ah_i h 170 ((364 : Int32).toNatClampNeg) = nI n := D.1
  rw [r168_2 K, Option.getD_some, e, il_4, pk_mul]
  exact inx (by omega) h
theorem ix364 : ix 364 368 := (ix_nI (i := 364) (by decide)).mpr (by decide)
theorem endC (K : sp h) (a : Int32) : X12_isEnd_C 168 364 a h := ⟨o168 K, 170, r168_2 K, (s170 K _).mpr ix364, in_bo _ _ _ _, trivial⟩
theorem fullC (K : sp h) : X12_full_C 168 h := ⟨o168 K, 171, r168_3 K, (s171 K _).mpr ix364, trivial⟩
theorem fullV (K : sp h) (D : mD h 364 n l A) (hl : l < 100) : X12_full_V 168 h = nI (if l ≤ 9 then 0 else 8) := by
  unfold X12_full_V
  have e : ah_i h 171 ((364 : Int32).toNatClampNeg) = nI l := D.2.1
  have c9 : nI l ≤ 9 ↔ l ≤ 9 := nI_leI (b := 9) (by omega) (by omega)
  rw [r168_3 K, Option.getD_some, e]
  by_cases q : l ≤ 9
  · rw [if_pos (c9.mpr q), if_pos q]; rfl
  · rw [if_neg (fun z => q (c9.mp z)), if_neg q]; rfl
theorem nfV (K : sp h) (hm : ∀ e, e < 4 * n → ah_i h 176 e = nI (m e)) (h40 : n ≤ 40) (hl : ∀ e, e < 4 * n → m e < 4 * n) {e : Nat} (he : e < 4 * n) : X12_nextOfFace_V 168 (nI e) h = nI (cn (m e) 3) := by
  unfold X12_nextOfFace_V
  have := hl e he
  rw [r168_10 K, Option.getD_some, nI_clamp (by omega), hm e he]
  exact turned_nI (k := 3) (by omega) (by omega)
theorem nfC (K : sp h) (h40 : n ≤ 40) {e : Nat} (he : e < 4 * n) : X12_nextOfFace_C 168 (nI e) h := ⟨o168 K, 176, r168_10 K, by rw [s176 K, ix_nI (by omega)]; omega, trivial⟩
theorem tuV {e : Nat} (k : Nat) (he : e < 2 ^ 30) (hk : k < 2 ^ 30) (g : AH) : X12_turned_V (nI e) (nI k) g = nI (cn e k) := turned_nI (by omega) (by omega)
theorem MC_S {h' : AH} {n' l' : Nat} {A' : Nat → Nat} (X : MC h n l A m) (F : fS 364 h h') (D : mD h' 364 n' l' A') : sp h' ∧ ∀ e, e < 4 * n → ah_i h' 176 e = nI (m e) := ⟨sp_fr X.1 F.1, fun e he => by rw [fr_i F.1 176 (by decide)]; exact X.2.2.1 e he⟩
theorem m_untwist {a : Int32} {f n' l' : Nat} {A' : Nat → Nat} (X : MC h n l A m) (M : mvU n l A m a f n' l' A') (k : ∀ h', fS 364 h h' → (f = 0 → mD h' 364 n' l' A') → Q (some (.int (nI f))) h') : ex_S yX12_untwist mX12_untwist (d + 2) [.ref 168, .int a] h bc bs Q := by
  obtain ⟨K, D, hm, h40, h9, R⟩ := X
  have no : (¬ ∃ e, e < 4 * n ∧ a = nI e ∧ m e = cn e 1) → Q (some (.int 5)) h := fun q => by
    rcases M with ⟨-, e⟩ | ⟨e, he, ea, me, -⟩
    · have := k h (fS_refl _ h) (fun z => absurd z (by omega))
      rw [e] at this
      exact this
    · exact absurd ⟨e, he, ea, me⟩ q
  refine X12_untwist_e (X12_untwist_0 ⟨o168 K, endC K a, fun z => no ?_, fun z => ?_⟩)
  · rintro ⟨e, he, ea, -⟩
    exact (endV K D h40 a).mp z (by rw [ea, ix_nI (by omega)]; exact he)
  have ia : ix a (4 * n) := Classical.not_not.mp (fun w => z ((endV K D h40 a).mpr w))
  obtain ⟨e, he, ea⟩ := ix_of ia (by omega)
  subst ea
  have k1 := cn_lt 1 he
  have k2 := cn_lt 2 he
  have k3 := cn_lt 3 he
  have t1 : X12_turned_V (nI e) 1 h = nI (cn e 1) := tuV 1 (by omega) (by omega) h
  have t2 : X12_turned_V (nI e) 2 h = nI (cn e 2) := tuV 2 (by omega) (by omega) h
  have t3 : X12_turned_V (nI e) 3 h = nI (cn e 3) := tuV 3 (by omega) (by omega) h
  have hA := fun e he => R.A100 (e := e) he
  have q0 := hA _ he
  have q1 := hA _ k1
  have q2 := hA _ k2
  have q3 := hA _ k3
  have e4 : nI e / 4 = nI (e / 4) := pk_div (d := 4) (by omega) (by omega) (by omega)
  have ee : A e = A (cn e 1) ↔ m e = cn e 1 := by
    constructor
    · intro q
      rcases (R.eq he k1).mp q.symm with w | w
      · exact absurd w (cn_ne (by decide))
      · exact w.symm
    · intro q
      rw [← q]
      exact (R.ar he).symm
  rw [t1, t2, t3, arcV K D h40 he, arcV K D h40 k1, arcV K D h40 k2, arcV K D h40 k3, e4, nI_eq (by omega) (by omega), ee]
  refine ⟨arcC K h40 he, arcC K h40 k1, fun me => ⟨arcC K h40 k2, arcC K h40 k3, ?_⟩, fun w => no ?_⟩
  · rcases M with ⟨q, -⟩ | ⟨e', he', ea', me', ef, e1, e2, e3⟩
    · exact absurd ⟨e, he, rfl, me⟩ q
    · rw [nI_eq (by omega) (by omega)] at ea'
      subst ea'
      have jb := jl_le (A (cn e 2)) (A (cn e 3)) l
      refine m_joinD (s := 364) K (by decide) D h40 hA q2 q3 (fun h7 F7 D7 => ⟨rfl, o168 (fS_sp K F7), ?_⟩)
      refine m_takeOutD (s := 364) (fS_sp K F7) (by decide) D7 h40 (by omega) (fun h8 F8 D8 => ⟨rfl, o168 (fS_sp (fS_sp K F7) F8), fullC (fS_sp (fS_sp K F7) F8), ?_⟩)
      have fin := k h8 (fS_trans F7 F8) (fun _ => by rw [e1, e2, e3]; exact D8)
      rw [fullV (fS_sp (fS_sp K F7) F8) D8 (by omega), ← e2, ← ef]
      exact fin
  · rintro ⟨e', he', ea', me'⟩
    rw [nI_eq (by omega) (by omega)] at ea'
    subst ea'
    exact w me'
theorem m_unpoke {a : Int32} {f n' l' : Nat} {A' : Nat → Nat} (X : MC h n l A m) (M : mvP n l A m a f n' l' A') (k : ∀ h', fS 364 h h' → (f = 0 → mD h' 364 n' l' A') → Q (some (.int (nI f))) h') : ex_S yX12_unpoke mX12_unpoke (d + 2) [.ref 168, .int a] h bc bs Q := by
  obtain ⟨K, D, hm, h40, h9, R⟩ := X
  have no : (¬ ∃ e, e < 4 * n ∧ a = nI e ∧ lens m e) → Q (some (.int 5)) h := fun q => by
    rcases M with ⟨-, e⟩ | ⟨e, he, ea, me, -⟩
    · have := k h (fS_refl _ h) (fun z => absurd z (by omega))
      rw [e] at this
      exact this
    · exact absurd ⟨e, he, ea, me⟩ q
  refine X12_unpoke_e (X12_unpoke_0 ⟨o168 K, endC K a, fun z => ?_, fun z => no ?_⟩)
  · have ia : ix a (4 * n) := Classical.not_not.mp (fun w => z ((endV K D h40 a).mpr w))
    obtain ⟨e, he, ea⟩ := ix_of ia (by omega)
    subst ea
    have un : (∃ e', e' < 4 * n ∧ nI e = nI e' ∧ lens m e') → lens m e := by
      rintro ⟨e', he', ea', me'⟩
      rw [nI_eq (by omega) (by omega)] at ea'
      subst ea'
      exact me'
    have hl := fun e he => R.lt (e := e) he
    have hml := hl e he
    have hc := cn_lt 3 hml
    have hc2 := cn_lt 3 (hl _ hc)
    have hd := cn_div (m e) 3
    have nf1 := nfV K hm h40 hl he
    have nf2 := nfV K hm h40 hl hc
    have k2 := cn_lt 2 he
    have k3 := cn_lt 3 he
    have j2 := cn_lt 2 hml
    have j1 := cn_lt 1 hml
    have hA := fun e he => R.A100 (e := e) he
    have t2 : ∀ g : AH, X12_turned_V (nI e) 2 g = nI (cn e 2) := tuV 2 (by omega) (by omega)
    have t3 : ∀ g : AH, X12_turned_V (nI e) 3 g = nI (cn e 3) := tuV 3 (by omega) (by omega)
    have s2 : ∀ g : AH, X12_turned_V (nI (m e)) 2 g = nI (cn (m e) 2) := tuV 2 (by omega) (by omega)
    have s1 : ∀ g : AH, X12_turned_V (nI (m e)) 1 g = nI (cn (m e) 1) := tuV 1 (by omega) (by omega)
    have e4 : nI e / 4 = nI (e / 4) := pk_div (d := 4) (by omega) (by omega) (by omega)
    have o4 : nI (m e) / 4 = nI (m e / 4) := pk_div (d := 4) (by omega) (by omega) (by omega)
    have e2_ : im_ (nI e) 2 = nI (e % 2) := im_nI (d := 2) (by omega) (by omega) (by omega)
    have o2_ : im_ (nI (m e)) 2 = nI (m e % 2) := im_nI (d := 2) (by omega) (by omega) (by omega)
    refine ⟨176, r168_10 K, ?_⟩
    rw [s176 K, ix_nI (by omega), nI_clamp (by omega), hm e he]
    refine ⟨by omega, fun x6 e6 => ?_⟩
    subst e6
    refine ⟨nfC K h40 he, fun x8 e8 => ?_⟩
    rw [nf1] at e8
    subst e8
    rw [nf2, e4, o4, e2_, o2_, nI_eq (by omega) (by omega), nI_eq (by omega) (by omega), nI_eq (by omega) (by omega), nI_eq (by omega) (by omega)]
    refine ⟨fun w => no (fun q => (un q).2.1 (by rw [← hd, w])), fun w0 => ⟨nfC K h40 hc, fun w => no (fun q => w (un q).1), fun w1 => ⟨fun w => no (fun q => (un q).2.1 w.symm), fun w2 => ⟨fun w3 => ?_, fun w => no (fun q => w (un q).2.2)⟩⟩⟩⟩
    have LE : lens m e := ⟨w1, fun q => w2 q.symm, w3⟩
    rcases M with ⟨q, -⟩ | ⟨e', he', ea', le', A1, l1, eA, el, ef, e1, e2, e3⟩
    · exact absurd ⟨e, he, rfl, LE⟩ q
    · rw [nI_eq (by omega) (by omega)] at ea'
      subst ea'
      have jb := jl_le (A (cn e 2)) (A (cn (m e) 2)) l
      have jb2 := jl_le (A1 (cn e 3)) (A1 (cn (m e) 1)) l1
      rw [t2, s2, arcV K D h40 k2, arcV K D h40 j2]
      refine ⟨arcC K h40 k2, arcC K h40 j2, m_joinD (s := 364) K (by decide) D h40 hA (hA _ k2) (hA _ j2) (fun h7 F7 D7 => ⟨rfl, o168 (fS_sp K F7), ?_⟩)⟩
      have K7 := fS_sp K F7
      rw [← eA, ← el] at D7
      have hA1 : ∀ e, e < 4 * n → A1 e < 100 := by rw [eA]; exact jn_lt hA (hA _ k2)
      rw [t3, s1, arcV K7 D7 h40 k3, arcV K7 D7 h40 j1]
      refine ⟨arcC K7 h40 k3, arcC K7 h40 j1, m_joinD (s := 364) K7 (by decide) D7 h40 hA1 (hA1 _ k3) (hA1 _ j1) (fun h8 F8 D8 => ⟨rfl, fun x21 e21 x22 e22 => ?_⟩)⟩
      have K8 := fS_sp K7 F8
      subst e21
      subst e22
      rw [nI_leI (by omega) (by omega)]
      have last : ∀ h9, fS 364 h8 h9 → mD h9 364 (n - 1 - 1) l' A' → ah_o h9 168 12 ∧ X12_full_C 168 h9 ∧ Q (some (.int (X12_full_V 168 h9))) h9 := by
        intro h9 F9 D9
        have K9 := fS_sp K8 F9
        refine ⟨o168 K9, fullC K9, ?_⟩
        have fin := k h9 (fS_trans F7 (fS_trans F8 F9)) (fun _ => by rw [e1]; exact D9)
        rw [fullV K9 D9 (by omega), ← ef]
        exact fin
      by_cases le_ : e / 4 ≤ m e / 4
      · refine ⟨fun _ => ?_, fun w => absurd le_ w⟩
        refine X12_unpoke_138 ⟨o168 K8, m_takeOutD (s := 364) K8 (by decide) D8 h40 (by omega) (fun h9 F9 D9 => ⟨rfl, ?_⟩)⟩
        rw [nI_leI (by omega) (by omega)]
        refine ⟨fun _ => ⟨o168 (fS_sp K8 F9), m_takeOutD (s := 364) (fS_sp K8 F9) (by decide) D9 (by omega) (by omega) (fun h10 F10 D10 => ⟨rfl, last h10 (fS_trans F9 F10) ?_⟩)⟩, fun w => absurd le_ w⟩
        rw [e2, e3, show min (e / 4) (m e / 4) = e / 4 by omega, show max (e / 4) (m e / 4) = m e / 4 by omega]
        exact D10
      · refine ⟨fun w => absurd w le_, fun _ => ?_⟩
        refine X12_unpoke_138 ⟨o168 K8, m_takeOutD (s := 364) K8 (by decide) D8 h40 (by omega) (fun h9 F9 D9 => ⟨rfl, ?_⟩)⟩
        rw [nI_leI (by omega) (by omega)]
        refine ⟨fun w => absurd w le_, fun _ => ⟨o168 (fS_sp K8 F9), m_takeOutD (s := 364) (fS_sp K8 F9) (by decide) D9 (by omega) (by omega) (fun h10 F10 D10 => ⟨rfl, last h10 (fS_trans F9 F10) ?_⟩)⟩⟩
        rw [e2, e3, show min (e / 4) (m e / 4) = m e / 4 by omega, show max (e / 4) (m e / 4) = e / 4 by omega]
        exact D10
  · rintro ⟨e, he, ea, -⟩
    exact (endV K D h40 a).mp z (by rw [ea, ix_nI (by omega)]; exact he)
theorem m_putX (D : mD h 364 n l A) {x : Nat} (hx : x < 160) (v : Nat) : fS 364 h (ah_si h 173 (58240 + x) (nI v)) ∧ mD (ah_si h 173 (58240 + x) (nI v)) 364 n l (u1 A x v) := by
  obtain ⟨d0, d1, d2, d3⟩ := D
  refine ⟨⟨fr_si (fr_refl _ h) (by decide), fun t ht => sl_173 (t := 364) ht (by omega) (by omega)⟩, ?_, ?_, ?_, ?_⟩
  · rw [i_si_n _ _ _ _ _ (by decide)]; exact d0
  · rw [i_si_n _ _ _ _ _ (by decide)]; exact d1
  · rw [i_si_n _ _ _ _ _ (by decide)]; exact d2
  · intro e he
    rw [i_si_s]
    by_cases q : e = x
    · rw [q, u1_s, u1_s]
    · rw [u1_n _ _ q, u1_n _ _ (by omega)]; exact d3 e he
theorem m_slides {A0 B : Nat → Nat} {x : Nat} (K : sp h) (D : mD h 364 n l B) (hm : ∀ e, e < 4 * n → ah_i h 176 e = nI (m e)) (hW : ∀ e, e < 4 * n → ah_i h 196 e = nI (A0 e)) (h40 : n ≤ 40) (hl : ∀ e, e < 4 * n → m e < 4 * n) (hx : x < 4 * n) (k : ∀ h', fS 364 h h' → ah_i h' 196 = ah_i h 196 → mD h' 364 n l (sld1 A0 B x (m x)) → Q none h') : ex_S yX12_slides mX12_slides (d + 1) [.ref 168, .int (nI x)] h bc bs Q := by
  have hml := hl x hx
  have k2 := cn_lt 2 hx
  have j2 := cn_lt 2 hml
  have t2 : ∀ g : AH, X12_turned_V (nI x) (nI 2) g = nI (cn x 2) := tuV 2 (by omega) (by omega)
  have s2 : ∀ g : AH, X12_turned_V (nI (m x)) (nI 2) g = nI (cn (m x) 2) := tuV 2 (by omega) (by omega)
  have vm := hm x hx
  have v1 := hW _ j2
  have v2 := hW _ hx
  have v3 := hW _ k2
  refine X12_slides_e (X12_slides_0 ?_)
  simp (disch := omega) only [o168 K, r168_5 K, s173 K, t173 K, r168_10 K, s176 K, t176 K, r168_34 K, s196 K, t196 K, vm, v1, v2, v3, t2, s2, nI_add, nI_clamp, ix_nI, forall_eq, Option.some.injEq, exists_eq_left', Option.getD_some, n_sf, k_sf, f_sf_s, f_sf_n, r_sf, i_sf, l_sf, q_sf, ld0_sf, st0_sf, ld1_sf, ld2_sf, ld3_sf, ah_o_sf, in__sf, cp__sf, ah_x_sf, ah_ra_sf, n_si, k_si, f_si, r_si, i_si_s, i_si_n, l_si, q_si, ld0_si, st0_si, ld1_si, ld2_si, ld3_si, ah_o_si, in__si, cp__si, ah_x_si, ah_ra_si, n_sl, k_sl, f_sl, r_sl, i_sl, l_sl_s, l_sl_n, q_sl, ld0_sl, st0_sl, ld1_sl, ld2_sl, ld3_sl, ah_o_sl, in__sl, cp__sl, ah_x_sl, ah_ra_sl, n_wi, k_wi, f_wi, r_wi, i_wi_s, i_wi_n, l_wi, q_wi, ld0_wi, st0_wi, ld1_wi, ld2_wi, ld3_wi, ah_o_wi, in__wi, cp__wi, ah_x_wi, ah_ra_wi, n_wl, k_wl, f_wl, r_wl, i_wl, l_wl_s, l_wl_n, q_wl, ld0_wl, st0_wl, ld1_wl, ld2_wl, ld3_wl, ah_o_wl, in__wl, cp__wl, ah_x_wl, ah_ra_wl, n_sr, k_sr, f_sr, r_sr_s, r_sr_n, i_sr, l_sr, q_sr, n_sq, k_sq, f_sq, r_sq, i_sq, l_sq, q_sq_s, q_sq_n, il_0, il_1, il_2, il_3, il_4, il_5, il_6, il_7, il_8, il_9, il_10, il_11, il_12, il_13, il_14, il_15, il_16, il_17, il_18, il_19, il_20, il_24, il_30, il_31, il_38, il_39, il_40, il_41, il_48, il_50, il_59, il_60, il_63, il_64, il_70, il_80, il_99, il_100, il_120, il_130, il_140, il_144, il_159, il_160, il_162, il_200, il_210, il_240, il_264, il_280, il_281, il_300, il_364, il_368, il_599, il_600, il_601, il_999, il_1610, il_1620, il_1800, il_4000, il_5000, il_7000, il_14500, il_58240, il_1000000]
  refine ⟨trivial, by omega, by omega, by omega, by omega, by omega, by omega, by omega, by omega, ?_⟩
  have a1 := m_putX D (x := x) (by omega) (A0 (cn (m x) 2))
  have a2 := m_putX a1.2 (x := cn x 2) (by omega) (A0 x)
  have a3 := m_putX a2.2 (x := m x) (by omega) (A0 (cn x 2))
  have a4 := m_putX a3.2 (x := cn (m x) 2) (by omega) (A0 x)
  refine k _ (fS_trans a1.1 (fS_trans a2.1 (fS_trans a3.1 a4.1))) ?_ a4.2
  rw [i_si_n _ _ _ _ _ (by decide), i_si_n _ _ _ _ _ (by decide), i_si_n _ _ _ _ _ (by decide), i_si_n _ _ _ _ _ (by decide)]
theorem goV (K : sp h) (hm : ∀ e, e < 4 * n → ah_i h 176 e = nI (m e)) (h40 : n ≤ 40) (hl : ∀ e, e < 4 * n → m e < 4 * n) {e : Nat} (he : e < 4 * n) : X12_goesOver_V 168 (nI e) h = nI 0 ↔ ¬ ov m e := by
  have hml := hl e he
  unfold X12_goesOver_V ov
  have e2 : im_ (nI e) 2 = nI (e % 2) := im_nI (d := 2) (by omega) (by omega) (by omega)
  have o2 : im_ (nI (m e)) 2 = nI (m e % 2) := im_nI (d := 2) (by omega) (by omega) (by omega)
  have c1 : nI (e % 2) = 1 ↔ e % 2 = 1 := nI_eq (b := 1) (by omega) (by omega)
  have c2 : nI (m e % 2) = 1 ↔ m e % 2 = 1 := nI_eq (b := 1) (by omega) (by omega)
  rw [r168_10 K, Option.getD_some, nI_clamp (by omega), hm e he, e2, o2]
  by_cases w : e % 2 = 1
  · rw [if_pos (c1.mpr w)]
    by_cases y : m e % 2 = 1
    · rw [if_pos (c2.mpr y)]
      exact ⟨fun z => absurd z (by decide), fun z => absurd ⟨w, y⟩ z⟩
    · rw [if_neg (fun z => y (c2.mp z))]
      exact ⟨fun _ z => y z.2, fun _ => rfl⟩
  · rw [if_neg (fun z => w (c1.mp z))]
    exact ⟨fun _ z => w z.1, fun _ => rfl⟩
theorem goC (K : sp h) (h40 : n ≤ 40) {e : Nat} (he : e < 4 * n) : X12_goesOver_C 168 (nI e) h := ⟨fun _ => trivial, fun _ => ⟨o168 K, 176, r168_10 K, by rw [s176 K, ix_nI (by omega)]; omega, trivial⟩⟩
theorem m_slide {a : Int32} {f n' l' : Nat} {A' : Nat → Nat} (X : MC h n l A m) (M : mvS n l A m a f n' l' A') (k : ∀ h', fS 364 h h' → (f = 0 → mD h' 364 n' l' A') → Q (some (.int (nI f))) h') : ex_S yX12_slide mX12_slide (d + 2) [.ref 168, .int a] h bc bs Q := by
  obtain ⟨K, D, hm, h40, h9, R⟩ := X
  have hl := fun e he => R.lt (e := e) he
  have no : (¬ ∃ x y z, tri n m a x y z) → Q (some (.int 5)) h := fun q => by
    rcases M with ⟨-, e⟩ | ⟨x, y, z, t, -⟩
    · have := k h (fS_refl _ h) (fun z => absurd z (by omega))
      rw [e] at this
      exact this
    · exact absurd ⟨x, y, z, t⟩ q
  refine X12_slide_e (X12_slide_0 ⟨o168 K, endC K a, fun z => ?_, fun z => no ?_⟩)
  · have ia : ix a (4 * n) := Classical.not_not.mp (fun w => z ((endV K D h40 a).mpr w))
    obtain ⟨e, he, ea⟩ := ix_of ia (by omega)
    subst ea
    have hml := hl e he
    obtain ⟨y, ey⟩ : ∃ y, y = cn (m e) 3 := ⟨_, rfl⟩
    have hy : y < 4 * n := by rw [ey]; exact cn_lt 3 hml
    obtain ⟨w, ew⟩ : ∃ w, w = cn (m y) 3 := ⟨_, rfl⟩
    have hw : w < 4 * n := by rw [ew]; exact cn_lt 3 (hl y hy)
    have hw3 := cn_lt 3 (hl w hw)
    have un : (∃ x' y' z', tri n m (nI e) x' y' z') → cn (m w) 3 = e ∧ e / 4 ≠ y / 4 ∧ y / 4 ≠ w / 4 ∧ w / 4 ≠ e / 4 ∧ (ov m e ∨ ov m y ∨ ov m w) := by
      rintro ⟨x', y', z', q1, q2, q3, q4, q5⟩
      rw [nI_eq (by omega) (by omega)] at q2
      subst q2
      rw [← ey] at q3
      subst q3
      rw [← ew] at q4
      subst q4
      exact q5
    have n1 : X12_nextOfFace_V 168 (nI e) h = nI y := by rw [nfV K hm h40 hl he, ← ey]
    have n2 : X12_nextOfFace_V 168 (nI y) h = nI w := by rw [nfV K hm h40 hl hy, ← ew]
    have n3 := nfV K hm h40 hl hw
    have e4 : nI e / 4 = nI (e / 4) := pk_div (d := 4) (by omega) (by omega) (by omega)
    have y4 : nI y / 4 = nI (y / 4) := pk_div (d := 4) (by omega) (by omega) (by omega)
    have w4 : nI w / 4 = nI (w / 4) := pk_div (d := 4) (by omega) (by omega) (by omega)
    have go : cn (m w) 3 = e → e / 4 ≠ y / 4 → e / 4 ≠ w / 4 → y / 4 ≠ w / 4 → (ov m e ∨ ov m y ∨ ov m w) → ex_G mX12_slide (d + 2) 102 [.ref 168, .int (nI e), .int (nI y), .int (nI w), .int 0] [] h bc bs Q := by
      intro c1 c2 c3 c4 c5
      have TR : tri n m (nI e) e y w := ⟨he, rfl, ey, ew, c1, c2, c4, fun q => c3 q.symm, c5⟩
      refine lp (4 * n) (fun j h' => fr [196] h h' ∧ ∀ i, i < j → ah_i h' 196 i = nI (A i)) (fun j h' => ex_G mX12_slide (d + 2) 102 [.ref 168, .int (nI e), .int (nI y), .int (nI w), .int (nI j)] [] h' bc bs Q) ⟨fr_refl _ h, fun i hi => absurd hi (Nat.not_lt_zero i)⟩ ?_ ?_
      · rintro j h1 hj ⟨F, e0⟩ nx
        have K1 := sp_fr K F
        have D1 := mD_sc D F (by decide)
        have a1 := arcV K1 D1 h40 hj
        have hn1 : ah_i h1 170 364 = nI n := D1.1
        refine X12_slide_102 ?_
        simp (disch := omega) only [o168 K1, r168_2 K1, s170 K1, t170 K1, r168_34 K1, s196 K1, t196 K1, hn1, a1, arcC K1 h40 hj, forall_eq, Option.some.injEq, exists_eq_left', Option.getD_some, n_sf, k_sf, f_sf_s, f_sf_n, r_sf, i_sf, l_sf, q_sf, ld0_sf, st0_sf, ld1_sf, ld2_sf, ld3_sf, ah_o_sf, in__sf, cp__sf, ah_x_sf, ah_ra_sf, n_si, k_si, f_si, r_si, i_si_s, i_si_n, l_si, q_si, ld0_si, st0_si, ld1_si, ld2_si, ld3_si, ah_o_si, in__si, cp__si, ah_x_si, ah_ra_si, n_sl, k_sl, f_sl, r_sl, i_sl, l_sl_s, l_sl_n, q_sl, ld0_sl, st0_sl, ld1_sl, ld2_sl, ld3_sl, ah_o_sl, in__sl, cp__sl, ah_x_sl, ah_ra_sl, n_wi, k_wi, f_wi, r_wi, i_wi_s, i_wi_n, l_wi, q_wi, ld0_wi, st0_wi, ld1_wi, ld2_wi, ld3_wi, ah_o_wi, in__wi, cp__wi, ah_x_wi, ah_ra_wi, n_wl, k_wl, f_wl, r_wl, i_wl, l_wl_s, l_wl_n, q_wl, ld0_wl, st0_wl, ld1_wl, ld2_wl, ld3_wl, ah_o_wl, in__wl, cp__wl, ah_x_wl, ah_ra_wl, n_sr, k_sr, f_sr, r_sr_s, r_sr_n, i_sr, l_sr, q_sr, n_sq, k_sq, f_sq, r_sq, i_sq, l_sq, q_sq_s, q_sq_n, il_0, il_1, il_2, il_3, il_4, il_5, il_6, il_7, il_8, il_9, il_10, il_11, il_12, il_13, il_14, il_15, il_16, il_17, il_18, il_19, il_20, il_24, il_30, il_31, il_38, il_39, il_40, il_41, il_48, il_50, il_59, il_60, il_63, il_64, il_70, il_80, il_99, il_100, il_120, il_130, il_140, il_144, il_159, il_160, il_162, il_200, il_210, il_240, il_264, il_280, il_281, il_300, il_364, il_368, il_599, il_600, il_601, il_999, il_1610, il_1620, il_1800, il_4000, il_5000, il_7000, il_14500, il_58240, il_1000000, m1_e, nI_1, nI_add, pk_mul, pk_div, pk_sub, nI_clamp, nI_leI, nI_ltI, nI_eq, m1_lt, m1_le, m1_gt, m1_ge, m1_ne, m1_en, ix_nI, im_nI, and1, and3, sh2_, shr2, corner_nI, turned_nI]
        refine ⟨trivial, by omega, fun z => by omega, fun _ => ⟨trivial, by omega, nx _ ⟨fr_si F (by decide), fun i hi => ?_⟩⟩⟩
        rw [i_si_s]
        by_cases q : i = j
        · rw [q, u1_s]
        · rw [u1_n _ _ q]; exact e0 i (by omega)
      · rintro h1 ⟨F, e0⟩
        have K1 := sp_fr K F
        have D1 := mD_sc D F (by decide)
        have hm1 : ∀ e, e < 4 * n → ah_i h1 176 e = nI (m e) := fun e he => by rw [fr_i F 176 (by decide)]; exact hm e he
        have hn1 : ah_i h1 170 364 = nI n := D1.1
        have F0 : fS 364 h h1 := fS_sc F (by decide)
        refine X12_slide_102 ?_
        simp (disch := omega) only [o168 K1, r168_2 K1, s170 K1, t170 K1, r168_34 K1, s196 K1, t196 K1, hn1, forall_eq, Option.some.injEq, exists_eq_left', Option.getD_some, n_sf, k_sf, f_sf_s, f_sf_n, r_sf, i_sf, l_sf, q_sf, ld0_sf, st0_sf, ld1_sf, ld2_sf, ld3_sf, ah_o_sf, in__sf, cp__sf, ah_x_sf, ah_ra_sf, n_si, k_si, f_si, r_si, i_si_s, i_si_n, l_si, q_si, ld0_si, st0_si, ld1_si, ld2_si, ld3_si, ah_o_si, in__si, cp__si, ah_x_si, ah_ra_si, n_sl, k_sl, f_sl, r_sl, i_sl, l_sl_s, l_sl_n, q_sl, ld0_sl, st0_sl, ld1_sl, ld2_sl, ld3_sl, ah_o_sl, in__sl, cp__sl, ah_x_sl, ah_ra_sl, n_wi, k_wi, f_wi, r_wi, i_wi_s, i_wi_n, l_wi, q_wi, ld0_wi, st0_wi, ld1_wi, ld2_wi, ld3_wi, ah_o_wi, in__wi, cp__wi, ah_x_wi, ah_ra_wi, n_wl, k_wl, f_wl, r_wl, i_wl, l_wl_s, l_wl_n, q_wl, ld0_wl, st0_wl, ld1_wl, ld2_wl, ld3_wl, ah_o_wl, in__wl, cp__wl, ah_x_wl, ah_ra_wl, n_sr, k_sr, f_sr, r_sr_s, r_sr_n, i_sr, l_sr, q_sr, n_sq, k_sq, f_sq, r_sq, i_sq, l_sq, q_sq_s, q_sq_n, il_0, il_1, il_2, il_3, il_4, il_5, il_6, il_7, il_8, il_9, il_10, il_11, il_12, il_13, il_14, il_15, il_16, il_17, il_18, il_19, il_20, il_24, il_30, il_31, il_38, il_39, il_40, il_41, il_48, il_50, il_59, il_60, il_63, il_64, il_70, il_80, il_99, il_100, il_120, il_130, il_140, il_144, il_159, il_160, il_162, il_200, il_210, il_240, il_264, il_280, il_281, il_300, il_364, il_368, il_599, il_600, il_601, il_999, il_1610, il_1620, il_1800, il_4000, il_5000, il_7000, il_14500, il_58240, il_1000000, m1_e, nI_1, nI_add, pk_mul, pk_div, pk_sub, nI_clamp, nI_leI, nI_ltI, nI_eq, m1_lt, m1_le, m1_gt, m1_ge, m1_ne, m1_en, ix_nI, im_nI, and1, and3, sh2_, shr2, corner_nI, turned_nI]
        refine ⟨trivial, by omega, fun _ => ?_, fun z => (by first | omega | exact absurd trivial z | exact z.elim | exact absurd rfl z)⟩
        refine m_slides (A0 := A) K1 D1 hm1 e0 h40 hl he (fun h2 F2 w2 D2 => ⟨rfl, o168 (fS_sp K1 F2), ?_⟩)
        have K2 := fS_sp K1 F2
        have hm2 : ∀ e, e < 4 * n → ah_i h2 176 e = nI (m e) := fun e he => by rw [fr_i F2.1 176 (by decide)]; exact hm1 e he
        refine m_slides (A0 := A) K2 D2 hm2 (by rw [w2]; exact e0) h40 hl hy (fun h3 F3 w3 D3 => ⟨rfl, o168 (fS_sp K2 F3), ?_⟩)
        have K3 := fS_sp K2 F3
        have hm3 : ∀ e, e < 4 * n → ah_i h3 176 e = nI (m e) := fun e he => by rw [fr_i F3.1 176 (by decide)]; exact hm2 e he
        refine m_slides (A0 := A) K3 D3 hm3 (by rw [w3, w2]; exact e0) h40 hl hw (fun h4 F4 w4 D4 => ⟨rfl, ?_⟩)
        rcases M with ⟨q, -⟩ | ⟨x', y', z', ⟨q1, q2, q3, q4, q5⟩, ef, e1, e2, e3⟩
        · exact absurd ⟨_, _, _, TR⟩ q
        · rw [nI_eq (by omega) (by omega)] at q2
          subst q2
          rw [← ey] at q3
          subst q3
          rw [← ew] at q4
          subst q4
          have fin := k h4 (fS_trans F0 (fS_trans F2 (fS_trans F3 F4))) (fun _ => by rw [e1, e2, e3]; exact D4)
          rw [ef] at fin
          exact fin
    have g1 := goV K hm h40 hl he
    have g2 := goV K hm h40 hl hy
    have g3 := goV K hm h40 hl hw
    refine ⟨nfC K h40 he, fun x5 e5 => ?_⟩
    rw [n1] at e5
    subst e5
    refine ⟨nfC K h40 hy, fun x7 e7 => ?_⟩
    rw [n2] at e7
    subst e7
    rw [n3, e4, y4, w4]
    rw [nI_eq (show cn (m w) 3 < 2 ^ 31 by omega) (show e < 2 ^ 31 by omega), nI_eq (show y < 2 ^ 31 by omega) (show e < 2 ^ 31 by omega), nI_eq (show w < 2 ^ 31 by omega) (show e < 2 ^ 31 by omega), nI_eq (show e / 4 < 2 ^ 31 by omega) (show y / 4 < 2 ^ 31 by omega), nI_eq (show e / 4 < 2 ^ 31 by omega) (show w / 4 < 2 ^ 31 by omega), nI_eq (show y / 4 < 2 ^ 31 by omega) (show w / 4 < 2 ^ 31 by omega)]
    refine ⟨nfC K h40 hw, fun q => no (fun t => q (un t).1), fun c1 => ⟨fun q => no (fun t => (un t).2.1 (by rw [q])), fun _ => ⟨fun q => no (fun t => (un t).2.2.2.1 (by rw [q])), fun _ => ⟨fun q => no (fun t => (un t).2.1 q), fun c2 => ⟨fun q => no (fun t => (un t).2.2.2.1 q.symm), fun c3 => ⟨fun c4 => ⟨goC K h40 he, fun q => go c1 c2 c3 c4 (Or.inl (Classical.not_not.mp (fun z => q (g1.mpr z)))), fun z1 => ⟨goC K h40 hy, fun q => go c1 c2 c3 c4 (Or.inr (Or.inl (Classical.not_not.mp (fun z => q (g2.mpr z))))), fun z2 => ⟨goC K h40 hw, fun q => go c1 c2 c3 c4 (Or.inr (Or.inr (Classical.not_not.mp (fun z => q (g3.mpr z))))), fun z3 => no (fun t => ?_)⟩⟩⟩, fun q => no (fun t => (un t).2.2.1 q)⟩⟩⟩⟩⟩⟩
    rcases (un t).2.2.2.2 with q | q | q
    · exact g1.mp z1 q
    · exact g2.mp z2 q
    · exact g3.mp z3 q
  · rintro ⟨x', y', z', q1, q2, -⟩
    exact (endV K D h40 a).mp z (by rw [q2, ix_nI (by omega)]; exact q1)
end MMOVE
