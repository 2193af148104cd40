/-! The reference's flype; moves by their kinds on both sides. -/
section MFLY
variable {h : AH} {d bc bs n l : Nat} {A m : Nat → Nat} {x1 x2 x3 : Int32} {Q : Option Value → AH → Prop}
theorem m_wayOut {B r : Int32} {k e : Nat} (K : sp h) (hm : ∀ e, e < 4 * n → ah_i h 176 e = nI (m e)) (h40 : n ≤ 40) (R : Pr n A m) (he : e < 4 * n) (hk : k < 4) (W : wyo B m k (cn e k) r) (kk : Q (some (.int r)) h) : ex_S yX12_wayOut mX12_wayOut (d + 1) [.ref 168, .int B, .int (nI e), .int (nI k)] h bc bs Q := by
  have he0 := cn_lt k he
  have lt := fun j => it_lt (R.pmt k) he0 j
  refine X12_wayOut_e (X12_wayOut_0 (fun x1 e1 => ?_))
  rw [turned_nI (by omega) (by omega)] at e1
  subst e1
  have step : ∀ j, j < 200 → inb B (m (it (fun e => cn (m e) k) j (cn e k))) = true → ex_G mX12_wayOut (d + 1) 10 [.ref 168, .int B, .retAddr 0, .int (nI k), .int (nI (it (fun e => cn (m e) k) (j + 1) (cn e k))), .int (nI (j + 1))] [] h bc bs Q → ex_G mX12_wayOut (d + 1) 10 [.ref 168, .int B, .retAddr 0, .int (nI k), .int (nI (it (fun e => cn (m e) k) j (cn e k))), .int (nI j)] [] h bc bs Q := by
    intro j hj hi nx
    have hl := lt j
    have hml := R.lt hl
    refine X12_wayOut_10 ?_
    have c200 : (200 : Int32) ≤ nI j ↔ 200 ≤ j := nI_leI (a := 200) (by omega) (by omega)
    rw [c200]
    refine ⟨fun z => by omega, fun _ => ⟨o168 K, 176, r168_10 K, ?_⟩⟩
    rw [s176 K, ix_nI (by omega), nI_clamp (by omega), hm _ hl]
    refine ⟨by omega, fun _ => ?_, fun z => ?_⟩
    · intro x6 e6 x7 e7
      rw [turned_nI (by omega) (by omega)] at e6
      rw [nI_1] at e7
      subst e6
      subst e7
      rw [it_s] at nx
      exact nx
    · have z' : X12_has_V B (nI (m (it (fun e => cn (m e) k) j (cn e k)))) h = nI 0 := z
      rw [hasV B (by omega), hi] at z'
      exact absurd z' (by decide)
  rcases W with ⟨j0, a1, a2, a3⟩ | ⟨a1, a2⟩
  · have j160 := wyo_lt R he0 a1 a2
    refine lp (σ := Unit) (s := ()) j0 (fun _ _ => True) (fun j _ => ex_G mX12_wayOut (d + 1) 10 [.ref 168, .int B, .retAddr 0, .int (nI k), .int (nI (it (fun e => cn (m e) k) j (cn e k))), .int (nI j)] [] h bc bs Q) trivial (fun j _ hj _ nx => step j (by omega) (a1 j hj) (nx () trivial)) (fun _ _ => ?_)
    have hl := lt j0
    have hml := R.lt hl
    refine X12_wayOut_10 ?_
    have c200 : (200 : Int32) ≤ nI j0 ↔ 200 ≤ j0 := nI_leI (a := 200) (by omega) (by omega)
    rw [c200]
    refine ⟨fun z => by omega, fun _ => ⟨o168 K, 176, r168_10 K, ?_⟩⟩
    rw [s176 K, ix_nI (by omega), nI_clamp (by omega), hm _ hl]
    refine ⟨by omega, fun z => absurd ?_ z, fun _ => ?_⟩
    · exact (hasV B (by omega) h).mpr a2
    · rw [a3] at kk
      exact kk
  · refine lp (σ := Unit) (s := ()) 200 (fun _ _ => True) (fun j _ => ex_G mX12_wayOut (d + 1) 10 [.ref 168, .int B, .retAddr 0, .int (nI k), .int (nI (it (fun e => cn (m e) k) j (cn e k))), .int (nI j)] [] h bc bs Q) trivial (fun j _ hj _ nx => step j hj (a1 j) (nx () trivial)) (fun _ _ => ?_)
    refine X12_wayOut_10 ⟨fun _ => ?_, fun z => absurd (show (200 : Int32) ≤ nI 200 by decide) z⟩
    rw [a2] at kk
    exact kk
theorem m_flype {a : Int32} {f n' l' : Nat} {A' : Nat → Nat} (X : MC h n l A m) (M : mvF n l A m a x2 f n' l' A') (k : ∀ h', fS 364 h h' → (f = 0 → mD h' 364 n' l' A') → Q (some (.int (nI f))) h') : ex_S yX12_flype mX12_flype (d + 2) [.ref 168, .int a, .int x2] h bc bs Q := by
  obtain ⟨K, D, hm, h40, h9, R⟩ := X
  have no : (¬ ∃ e w v r s, flyp n m a x2 e w v r s) → Q (some (.int 5)) h := fun q => by
    rcases M with ⟨-, e⟩ | ⟨e, w, v, r, s, z, -⟩
    · have := k h (fS_refl _ h) (fun z => absurd z (by omega))
      rw [e] at this
      exact this
    · exact absurd ⟨e, w, v, r, s, z⟩ q
  have l170 : ah_i h 170 ((364 : Int32).toNatClampNeg) = nI n := D.1
  have i364 : ix 364 368 := ix364
  have rest : ∀ e, e < 4 * n → a = nI e → thr x2 n → ex_G mX12_flype (d + 2) 41 [.ref 168, .int a, .int x2, .retAddr 0, .retAddr 0, .retAddr 0, .retAddr 0, .retAddr 0, .retAddr 0, .retAddr 0, .retAddr 0, .retAddr 0, .retAddr 0, .retAddr 0, .retAddr 0, .retAddr 0] [] h bc bs Q := by
    intro e he ea th
    subst ea
    have uq : ∀ {e'}, nI e = nI e' → e' < 4 * n → e' = e := fun {e'} q h' => by
      rw [nI_eq (by omega) (by omega)] at q
      exact q.symm
    have k1 := cn_lt 1 he
    have k2 := cn_lt 2 he
    have k3 := cn_lt 3 he
    have hw := R.lt he
    have hv := R.lt k1
    have ve := hasV x2 (e := e) (by omega) h
    have vw := hasV x2 (e := m e) (by omega) h
    have vv := hasV x2 (e := m (cn e 1)) (by omega) h
    have t1 : ∀ g : AH, X12_turned_V (nI e) 1 g = nI (cn e 1) := tuV 1 (by omega) (by omega)
    have t2 : ∀ g : AH, X12_turned_V (nI e) 2 g = nI (cn e 2) := tuV 2 (by omega) (by omega)
    have t3 : ∀ g : AH, X12_turned_V (nI e) 3 g = nI (cn e 3) := tuV 3 (by omega) (by omega)
    refine X12_flype_41 ⟨fun ine => ⟨o168 K, 176, r168_10 K, ?_⟩, fun ine => no ?_⟩
    · rw [t1, s176 K, s176 K, ix_nI (by omega), ix_nI (by omega), nI_clamp (by omega), nI_clamp (by omega), hm e he, hm _ k1]
      have ine' := ve.mp ine
      refine ⟨by omega, fun x5 e5 => ⟨by omega, fun x7 e7 => ?_⟩⟩
      subst e5
      subst e7
      refine lp (σ := Unit) (s := ()) (4 * n) (fun _ _ => True) (fun j _ => ex_G mX12_flype (d + 2) 76 [.ref 168, .int (nI e), .int x2, .int (nI (m e)), .int (nI (m (cn e 1))), .int (nI (ct (nwo x2 m) j)), .int (nI j), .retAddr 0, .retAddr 0, .retAddr 0, .retAddr 0, .retAddr 0, .retAddr 0, .retAddr 0, .retAddr 0, .retAddr 0] [] h bc bs Q) trivial (fun j _ hj _ nx => ?_) (fun _ _ => ?_)
      · have nx := nx () trivial
        have hml := R.lt hj
        have v1 := hasV x2 (e := j) (by omega) h
        have v2 := hasV x2 (e := m j) (by omega) h
        have p0 : nI (ct (nwo x2 m) j) + 0 = nI (ct (nwo x2 m) j) := nI_add _ 0
        refine X12_flype_76 ⟨o168 K, 170, r168_2 K, (s170 K _).mpr i364, ?_⟩
        have c4 : (4 : Int32) * nI n ≤ nI j ↔ 4 * n ≤ j := by
          have : (4 : Int32) * nI n = nI (4 * n) := pk_mul 4 n
          rw [this]
          exact nI_leI (by omega) (by omega)
        rw [l170, c4]
        refine ⟨fun z => by omega, fun _ => ⟨fun w => ?_, fun w => ⟨176, r168_10 K, ?_⟩⟩⟩
        · intro x51 e51 x52 e52
          rw [p0] at e51
          rw [nI_1] at e52
          subst e51
          subst e52
          rw [ct_n (fun z => by have z1 := z.1; rw [v1.mp w] at z1; exact absurd z1 (by decide))] at nx
          exact nx
        · rw [s176 K, ix_nI (by omega), nI_clamp (by omega), hm j hj]
          have hb : inb x2 j = true := by
            cases hb : inb x2 j with
            | true => rfl
            | false => exact absurd (v1.mpr hb) w
          refine ⟨by omega, fun w2 => ?_, fun w2 => ?_⟩
          · intro x51 e51 x52 e52
            rw [p0] at e51
            rw [nI_1] at e52
            subst e51
            subst e52
            rw [ct_n (fun z => w2 (v2.mpr z.2))] at nx
            exact nx
          · intro x51 e51 x52 e52
            rw [nI_1] at e51 e52
            subst e51
            subst e52
            rw [ct_y ⟨hb, v2.mp w2⟩] at nx
            exact nx
      · refine X12_flype_76 ⟨o168 K, 170, r168_2 K, (s170 K _).mpr i364, ?_⟩
        have c4 : (4 : Int32) * nI n ≤ nI (4 * n) ↔ 4 * n ≤ 4 * n := by
          have : (4 : Int32) * nI n = nI (4 * n) := pk_mul 4 n
          rw [this]
          exact nI_leI (by omega) (by omega)
        have ctl := ct_le (nwo x2 m) (4 * n)
        have n4_ : nI (ct (nwo x2 m) (4 * n)) = 4 ↔ ct (nwo x2 m) (4 * n) = 4 := nI_eq (b := 4) (by omega) (by omega)
        rw [l170, c4, n4_]
        refine ⟨fun _ => ⟨fun z => no ?_, fun inw => ⟨fun z => no ?_, fun inv => ⟨fun n4 => ?_, fun z => no ?_⟩⟩⟩, fun z => absurd (Nat.le_refl _) z⟩
        · rintro ⟨e', w, v, r, s, q1, q2, q3, q4, q5, q6, q7, -⟩
          have := uq q2 q1
          subst this
          rw [q5, vw.mp z] at q7
          exact absurd q7 (by decide)
        · rintro ⟨e', w, v, r, s, q1, q2, q3, q4, q5, q6, q7, q8, -⟩
          have := uq q2 q1
          subst this
          rw [q6, vv.mp z] at q8
          exact absurd q8 (by decide)
        · have inw' : inb x2 (m e) = true := by
            cases hb : inb x2 (m e) with
            | true => rfl
            | false => exact absurd (vw.mpr hb) inw
          have inv' : inb x2 (m (cn e 1)) = true := by
            cases hb : inb x2 (m (cn e 1)) with
            | true => rfl
            | false => exact absurd (vv.mpr hb) inv
          obtain ⟨r, hr⟩ := wyo_ex x2 m 3 (cn (m (cn e 1)) 3)
          obtain ⟨s, hs⟩ := wyo_ex x2 m 1 (cn (m e) 1)
          refine m_wayOut (k := 3) K hm h40 R hv (by decide) hr ⟨_, rfl, o168 K, m_wayOut (k := 1) K hm h40 R hw (by decide) hs ⟨_, rfl, ?_⟩⟩
          have rr : r = m1 ∨ ∃ r0, r0 < 4 * n ∧ r = nI r0 := by
            rcases hr with ⟨j, -, -, q⟩ | ⟨-, q⟩
            · exact Or.inr ⟨_, it_lt (R.pmt 3) (cn_lt 3 hv) j, q⟩
            · exact Or.inl q
          have ss : s = m1 ∨ ∃ s0, s0 < 4 * n ∧ s = nI s0 := by
            rcases hs with ⟨j, -, -, q⟩ | ⟨-, q⟩
            · exact Or.inr ⟨_, it_lt (R.pmt 1) (cn_lt 1 hw) j, q⟩
            · exact Or.inl q
          have un : ∀ e' w v r' s', flyp n m (nI e) x2 e' w v r' s' → w = m e ∧ v = m (cn e 1) ∧ r = nI r' ∧ s = nI s' ∧ r' < 4 * n ∧ s' < 4 * n ∧ r' ≠ s' ∧ r' ≠ w ∧ r' ≠ v ∧ s' ≠ w ∧ s' ≠ v := by
            rintro e' w v r' s' ⟨q1, q2, q3, q4, q5, q6, q7, q8, q9, q10, q11, q12⟩
            have := uq q2 q1
            subst this
            subst q5
            subst q6
            exact ⟨rfl, rfl, wyo_u hr q10, wyo_u hs q11, q12⟩
          refine ⟨fun z => no ?_, fun z1 => ⟨fun z => no ?_, fun z2 => ⟨fun z => no ?_, fun z3 => ⟨fun z => no ?_, fun z4 => ⟨fun z => no ?_, fun z5 => ⟨fun z => no ?_, fun z6 => ⟨fun z7 => ?_, fun z => no ?_⟩⟩⟩⟩⟩⟩⟩
          · rintro ⟨e', w, v, r', s', q⟩
            obtain ⟨u1_, u2, u3, u4, u5, u6, -⟩ := un _ _ _ _ _ q
            rw [u3] at z
            exact m1_ne (by omega) z
          · rintro ⟨e', w, v, r', s', q⟩
            obtain ⟨u1_, u2, u3, u4, u5, u6, -⟩ := un _ _ _ _ _ q
            rw [u4] at z
            exact m1_ne (by omega) z
          · rintro ⟨e', w, v, r', s', q⟩
            obtain ⟨u1_, u2, u3, u4, u5, u6, u7, u8, u9, u10, u11⟩ := un _ _ _ _ _ q
            rw [u3, nI_eq (by omega) (by omega)] at z
            exact u8 (by rw [u1_]; exact z)
          · rintro ⟨e', w, v, r', s', q⟩
            obtain ⟨u1_, u2, u3, u4, u5, u6, u7, u8, u9, u10, u11⟩ := un _ _ _ _ _ q
            rw [u3, nI_eq (by omega) (by omega)] at z
            exact u9 (by rw [u2]; exact z)
          · rintro ⟨e', w, v, r', s', q⟩
            obtain ⟨u1_, u2, u3, u4, u5, u6, u7, u8, u9, u10, u11⟩ := un _ _ _ _ _ q
            rw [u4, nI_eq (by omega) (by omega)] at z
            exact u10 (by rw [u1_]; exact z)
          · rintro ⟨e', w, v, r', s', q⟩
            obtain ⟨u1_, u2, u3, u4, u5, u6, u7, u8, u9, u10, u11⟩ := un _ _ _ _ _ q
            rw [u4, nI_eq (by omega) (by omega)] at z
            exact u11 (by rw [u2]; exact z)
          · rcases rr with rr | ⟨r0, hr0, rr⟩
            · exact absurd rr z1
            rcases ss with ss | ⟨s0, hs0, ss⟩
            · exact absurd ss z2
            subst rr
            subst ss
            rw [nI_eq (by omega) (by omega)] at z3 z4 z5 z6 z7
            have FL : flyp n m (nI e) x2 e (m e) (m (cn e 1)) r0 s0 := ⟨he, rfl, th, ine', rfl, rfl, inw', inv', n4, hr, hs, hr0, hs0, z7, z3, z4, z5, z6⟩
            have D8 := m_putX (m_putX (m_putX (m_putX (m_putX (m_putX (m_putX (m_putX D (x := e) (by omega) (A s0)).2 (x := cn e 1) (by omega) (A r0)).2 (x := cn e 2) (by omega) (A e)).2 (x := cn e 3) (by omega) (A (cn e 1))).2 (x := m e) (by omega) (A (cn e 2))).2 (x := m (cn e 1)) (by omega) (A (cn e 3))).2 (x := s0) (by omega) (A e)).2 (x := r0) (by omega) (A (cn e 1))
            have F8 : fS 364 h (ah_si (ah_si (ah_si (ah_si (ah_si (ah_si (ah_si (ah_si h 173 (58240 + e) (nI (A s0))) 173 (58240 + cn e 1) (nI (A r0))) 173 (58240 + cn e 2) (nI (A e))) 173 (58240 + cn e 3) (nI (A (cn e 1)))) 173 (58240 + m e) (nI (A (cn e 2)))) 173 (58240 + m (cn e 1)) (nI (A (cn e 3)))) 173 (58240 + s0) (nI (A e))) 173 (58240 + r0) (nI (A (cn e 1)))) := ⟨fr_si (fr_si (fr_si (fr_si (fr_si (fr_si (fr_si (fr_si (fr_refl _ h) (by decide)) (by decide)) (by decide)) (by decide)) (by decide)) (by decide)) (by decide)) (by decide), fun t ht => sl_trans (sl_trans (sl_trans (sl_trans (sl_trans (sl_trans (sl_trans (sl_173 (t := 364) ht (by omega) (by omega)) (sl_173 (t := 364) ht (by omega) (by omega))) (sl_173 (t := 364) ht (by omega) (by omega))) (sl_173 (t := 364) ht (by omega) (by omega))) (sl_173 (t := 364) ht (by omega) (by omega))) (sl_173 (t := 364) ht (by omega) (by omega))) (sl_173 (t := 364) ht (by omega) (by omega))) (sl_173 (t := 364) ht (by omega) (by omega))⟩
            have D8' := D8.2
            have tail : ∀ h1, fS 364 h h1 → mD h1 364 n l (pas A e (m e) (m (cn e 1)) r0 s0) → ex_G mX12_flype (d + 2) 388 [.ref 168, .retAddr 0, .int x2, .retAddr 0, .retAddr 0, .retAddr 0, .retAddr 0, .retAddr 0, .retAddr 0, .retAddr 0, .retAddr 0, .retAddr 0, .retAddr 0, .retAddr 0, .retAddr 0, .int (nI 0)] [] h1 bc bs Q := by
              intro h1 F1 D1
              refine lp n (fun j h' => fS 364 h h' ∧ mD h' 364 n l (tvs x2 j (pas A e (m e) (m (cn e 1)) r0 s0))) (fun j h' => ex_G mX12_flype (d + 2) 388 [.ref 168, .retAddr 0, .int x2, .retAddr 0, .retAddr 0, .retAddr 0, .retAddr 0, .retAddr 0, .retAddr 0, .retAddr 0, .retAddr 0, .retAddr 0, .retAddr 0, .retAddr 0, .retAddr 0, .int (nI j)] [] h' bc bs Q) ⟨F1, by rw [tvs_0]; exact D1⟩ ?_ ?_
              · rintro j h4 hj ⟨F4, D4⟩ nx
                have K4 := fS_sp K F4
                have n4' : ah_i h4 170 ((364 : Int32).toNatClampNeg) = nI n := D4.1
                refine X12_flype_388 ⟨o168 K4, 170, r168_2 K4, (s170 K4 _).mpr i364, ?_⟩
                have e4 : (4 : Int32) * nI j = nI (4 * j) := pk_mul 4 j
                rw [n4', nI_leI (by omega) (by omega), e4]
                refine ⟨fun z => by omega, fun _ => ⟨fun z => ?_, fun z => m_turnOverD (s := 364) K4 (by decide) D4 h40 hj (fun h8 F8 D8 => ⟨rfl, ?_⟩)⟩⟩
                · intro x5 e5
                  rw [nI_1] at e5
                  subst e5
                  exact nx h4 ⟨F4, by rw [tvs_n ((hasV x2 (by omega) h4).mp z)]; exact D4⟩
                · intro x9 e9
                  rw [nI_1] at e9
                  subst e9
                  refine nx h8 ⟨fS_trans F4 F8, ?_⟩
                  rw [tvs_y]
                  · exact D8
                  · cases hb : inb x2 (4 * j) with
                    | true => rfl
                    | false => exact absurd ((hasV x2 (by omega) h4).mpr hb) z
              · rintro h4 ⟨F4, D4⟩
                have K4 := fS_sp K F4
                have n4' : ah_i h4 170 ((364 : Int32).toNatClampNeg) = nI n := D4.1
                refine X12_flype_388 ⟨o168 K4, 170, r168_2 K4, (s170 K4 _).mpr i364, ?_⟩
                rw [n4', nI_leI (by omega) (by omega)]
                refine ⟨fun _ => ?_, fun z => absurd (Nat.le_refl n) z⟩
                rcases M with ⟨q, -⟩ | ⟨e', w, v, r', s', q, ef, e1, e2, e3⟩
                · exact absurd ⟨_, _, _, _, _, FL⟩ q
                · obtain ⟨u1_, u2, u3, u4, u5, u6, -⟩ := un _ _ _ _ _ q
                  have ee := uq q.2.1 q.1
                  rw [nI_eq (by omega) (by omega)] at u3 u4
                  subst ee
                  subst u1_
                  subst u2
                  subst u3
                  subst u4
                  have := k h4 F4 (fun _ => by rw [e1, e2, e3]; exact D4)
                  rw [ef] at this
                  exact this
            have w0 := arcV K D h40 he
            have w1 := arcV K D h40 k1
            have w2 := arcV K D h40 k2
            have w3 := arcV K D h40 k3
            have w4 := arcV K D h40 hr0
            have w5 := arcV K D h40 hs0
            have y0 := arcC K h40 he
            have y1 := arcC K h40 k1
            have y2 := arcC K h40 k2
            have y3 := arcC K h40 k3
            have y4 := arcC K h40 hr0
            have y5 := arcC K h40 hs0
            have tt1 : ∀ g : AH, X12_turned_V (nI e) (nI 1) g = nI (cn e 1) := t1
            have tt2 : ∀ g : AH, X12_turned_V (nI e) (nI 2) g = nI (cn e 2) := t2
            have tt3 : ∀ g : AH, X12_turned_V (nI e) (nI 3) g = nI (cn e 3) := t3
            simp (disch := omega) only [o168 K, r168_5 K, s173 K, t173 K, tt1, tt2, tt3, w0, w1, w2, w3, w4, w5, y0, y1, y2, y3, y4, y5, nI_add, nI_clamp, ix_nI, true_and, forall_eq, Option.some.injEq, exists_eq_left', Option.getD_some, n_sf, k_sf, f_sf_s, f_sf_n, r_sf, i_sf, l_sf, q_sf, ld0_sf, st0_sf, ld1_sf, ld2_sf, ld3_sf, ah_o_sf, in__sf, cp__sf, ah_x_sf, ah_ra_sf, n_si, k_si, f_si, r_si, i_si_s, i_si_n, l_si, q_si, ld0_si, st0_si, ld1_si, ld2_si, ld3_si, ah_o_si, in__si, cp__si, ah_x_si, ah_ra_si, n_sl, k_sl, f_sl, r_sl, i_sl, l_sl_s, l_sl_n, q_sl, ld0_sl, st0_sl, ld1_sl, ld2_sl, ld3_sl, ah_o_sl, in__sl, cp__sl, ah_x_sl, ah_ra_sl, n_wi, k_wi, f_wi, r_wi, i_wi_s, i_wi_n, l_wi, q_wi, ld0_wi, st0_wi, ld1_wi, ld2_wi, ld3_wi, ah_o_wi, in__wi, cp__wi, ah_x_wi, ah_ra_wi, n_wl, k_wl, f_wl, r_wl, i_wl, l_wl_s, l_wl_n, q_wl, ld0_wl, st0_wl, ld1_wl, ld2_wl, ld3_wl, ah_o_wl, in__wl, cp__wl, ah_x_wl, ah_ra_wl, n_sr, k_sr, f_sr, r_sr_s, r_sr_n, i_sr, l_sr, q_sr, n_sq, k_sq, f_sq, r_sq, i_sq, l_sq, q_sq_s, q_sq_n, il_0, il_1, il_2, il_3, il_4, il_5, il_6, il_7, il_8, il_9, il_10, il_11, il_12, il_13, il_14, il_15, il_16, il_17, il_18, il_19, il_20, il_24, il_30, il_31, il_38, il_39, il_40, il_41, il_48, il_50, il_59, il_60, il_63, il_64, il_70, il_80, il_99, il_100, il_120, il_130, il_140, il_144, il_159, il_160, il_162, il_200, il_210, il_240, il_264, il_280, il_281, il_300, il_364, il_368, il_599, il_600, il_601, il_999, il_1610, il_1620, il_1800, il_4000, il_5000, il_7000, il_14500, il_58240, il_1000000]
            exact ⟨by omega, by omega, by omega, by omega, by omega, by omega, by omega, by omega, tail _ F8 D8'⟩
          · rintro ⟨e', w, v, r', s', q⟩
            obtain ⟨u1_, u2, u3, u4, u5, u6, u7, -⟩ := un _ _ _ _ _ q
            rw [u3, u4, nI_eq (by omega) (by omega)] at z
            exact u7 z
        · rintro ⟨e', w, v, r, s, q1, q2, q3, q4, q5, q6, q7, q8, q9, -⟩
          exact z q9
    · rintro ⟨e', w, v, r, s, q1, q2, q3, q4, -⟩
      have := uq q2 q1
      subst this
      exact ine (ve.mpr q4)
  refine X12_flype_e (X12_flype_0 ⟨o168 K, endC K a, fun z => no ?_, fun z => ⟨fun bz => no ?_, fun bz => ⟨170, r168_2 K, (s170 K _).mpr i364, ?_⟩⟩⟩)
  · rintro ⟨e, w, v, r, s, q1, q2, -⟩
    exact (endV K D h40 a).mp z (by rw [q2, ix_nI (by omega)]; exact q1)
  · rintro ⟨e, w, v, r, s, q1, q2, q3, -⟩
    exact q3.1 bz
  · have ia : ix a (4 * n) := Classical.not_not.mp (fun w => z ((endV K D h40 _).mpr w))
    obtain ⟨e, he, ea⟩ := ix_of ia (by omega)
    have c31 : (31 : Int32) ≤ nI n ↔ 31 ≤ n := nI_leI (a := 31) (by omega) (by omega)
    rw [l170, c31]
    refine ⟨fun n31 => rest e he ea ⟨bz, Or.inl (by omega)⟩, fun n31 => ⟨fun w => no ?_, fun w => rest e he ea ⟨bz, Or.inr w⟩⟩⟩
    rintro ⟨e', w', v, r, s, q1, q2, q3, -⟩
    rcases q3.2 with q | q
    · omega
    · exact w q
end MFLY
