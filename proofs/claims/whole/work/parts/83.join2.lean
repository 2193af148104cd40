/-! join: the step. -/
section JOIN2
variable {h h1 h2 h3 h9 hx hz : AH} {d bc bs : Nat} {Q : Option Value → AH → Prop} {W : Nat → Nat} {N : Nat} {B : Nat → Nat} {S : Nat → Int32} {len : Nat}
theorem us_put {n x v : Nat} {A : Nat → Nat} (m : Nat) (hm : m < 4 * n) (hx : x < 4 * n) (hmx : m ≠ x) (eA : A m = A x) (hv : us n A v) : ∀ y, us n (u1 A x v) y ↔ us n A y := by
  intro y
  constructor
  · rintro ⟨e, he, q⟩
    by_cases w : e = x
    · rw [w, u1_s] at q
      rw [← q]
      exact hv
    · rw [u1_n _ _ w] at q
      exact ⟨e, he, q⟩
  · rintro ⟨e, he, q⟩
    by_cases w : e = x
    · exact ⟨m, hm, by rw [u1_n _ _ hmx, eA, ← w]; exact q⟩
    · exact ⟨e, he, by rw [u1_n _ _ w]; exact q⟩
theorem fa_congr {u u' : Nat → Prop} {lo a : Nat} (e : ∀ x, u' x ↔ u x) (f : fa u lo a) : fa u' lo a := ⟨f.1, f.2.1, fun z => f.2.2.1 ((e a).mp z), fun x x1 x2 => (e x).mpr (f.2.2.2 x x1 x2)⟩
theorem st_join (x : R0 h W N B S len) (hmax : ah_n h + 3 ≤ 10000000) (p a q b : Int32) : ST yX11_join mX11_join yX12_join mX12_join (d + 5) (d + 4) [.int p, .int a, .int q, .int b] h (bc + 3) (bs + 207) W S len := by
  have K := x.2.1
  obtain ⟨h24, hN, hN2, hP⟩ := x.2.2.2.2.1
  have hv := hasP (p := p) hN h24
  have hw := hasP (p := q) hN h24
  have fq := fullQ hN h24
  have bad : (¬ ix p N ∨ ¬ ix q N) → ex_S yX12_join mX12_join (d + 4) [.ref 168, .int p, .int a, .int q, .int b] (cNo h (-nI 2)) 0 0 (fun r' h2 => r' = some (.int (-nI 2)) ∧ DONE h h2 W S len) := by
    intro nb
    obtain ⟨q1, q3, q4, q5⟩ := see_no x (fcs_refl h) (-nI 2)
    have iv := isP_ (h := cNo h (-nI 2)) (p := p) (N := N) (by rw [q1]; exact hN2) h24
    have iv2 := isP_ (h := cNo h (-nI 2)) (p := q) (N := N) (by rw [q1]; exact hN2) h24
    have fin : X12_no_C 168 (-2) (cNo h (-nI 2)) ∧ ∀ h5, h5 = X12_no_H 168 (-2) (cNo h (-nI 2)) → (some (Value.int (X12_no_V 168 (-2) (cNo h (-nI 2)))) = some (.int (-nI 2)) ∧ DONE h h5 W S len) := ⟨noC q4 _, fun h8 e8 => ⟨rfl, by rw [e8]; exact D_no x (fcs_refl h) (-nI 2) (fms_refl _)⟩⟩
    refine X12_join_e (X12_join_0 ⟨o168 q4, isPC q4 _, fun _ => fin, fun w => ⟨isPC q4 _, fun w2 => ?_, fun _ => fin⟩⟩)
    rcases nb with z | z
    · exact absurd (iv.mpr z) w
    · exact absurd (iv2.mpr z) w2
  refine X11_join_e (X11_join_0 ⟨o0 K, hasPC K p, fun z => c_no K 2 (by decide) ⟨_, rfl, _, rfl, bad (Or.inl (hv.mp z))⟩, fun z => ⟨hasPC K q, fun y => ⟨⟨o0 K, trivial⟩, fun nf => ⟨7, r0_4 K, ?_⟩, fun nf => c_no K 3 (by decide) ⟨_, rfl, _, rfl, ?_⟩⟩, fun y => c_no K 2 (by decide) ⟨_, rfl, _, rfl, bad (Or.inr (hw.mp y))⟩⟩⟩)
  · have ip : ix p N := Classical.not_not.mp (fun w => z (hv.mpr w))
    have iq : ix q N := Classical.not_not.mp (fun w => y (hw.mpr w))
    obtain ⟨p0, hp0, ep⟩ := ix_of ip (by omega)
    obtain ⟨q0, hq0, eq⟩ := ix_of iq (by omega)
    subst ep
    subst eq
    have hlt := fq.mp nf
    -- the reference refuses open pictures
    have mopen : ∀ hx, fcs h hx → ((∃ n, OP h N B p0 n) ∨ ((∃ n l, WH h N B p0 n l) ∧ ∃ n, OP h N B q0 n)) → ex_S yX12_join mX12_join (d + 4) [.ref 168, .int (nI p0), .int a, .int (nI q0), .int b] (cF hx 3) 0 0 (fun r' h2 => r' = some (.int (-nI 13)) ∧ DONE h h2 W S len) := by
      intro hx F why
      obtain ⟨q1, q3, q4, q5⟩ := see_f x F 3
      have hN6 : ah_f (cF hx 3) 168 6 = nI N := by rw [q1]; exact hN2
      have iv := isP_ (h := cF hx 3) (p := nI p0) (N := N) hN6 h24
      have iv2 := isP_ (h := cF hx 3) (p := nI q0) (N := N) hN6 h24
      have c24 : ¬ ah_f (cF hx 3) 168 6 = 24 := fun w => by
        rw [hN6] at w
        have := (nI_eq (b := 24) (by omega) (by omega)).mp w
        omega
      have meet : ∀ h', fms (cF hx 3) h' → X12_meets_C 168 3 h' ∧ ∀ h12, h12 = X12_meets_H 168 3 h' → (some (Value.int (X12_meets_V 168 3 h')) = some (.int (-nI 13)) ∧ DONE h h12 W S len) := fun h' G => ⟨meC (f := 3) (G.2.2.1 q4) (by decide), fun h12 e12 => ⟨rfl, by rw [e12.trans (meH (f := 3) (G.2.2.1 q4) (by decide))]; exact D_f x F (by decide) (by decide) G⟩⟩
      refine X12_join_e (X12_join_0 ⟨o168 q4, isPC q4 _, fun w => absurd ip (iv.mp w), fun _ => ⟨isPC q4 _, fun _ => ⟨fun _ => ?_, fun w => absurd w c24⟩, fun w => absurd iq (iv2.mp w)⟩⟩)
      rcases why with ⟨n, op⟩ | ⟨⟨n, l, wh⟩, n', op⟩
      · refine m_open_open x.2 op q4 (q5 p0) (fun h' r r0 r4 G => ⟨_, rfl, fun _ => ⟨o168 (G.2.2.1 q4), meet h' G⟩, fun w => absurd ?_ w⟩)
        exact (nI_ltI (a := 0) (by omega) (by omega)).mpr (by omega)
      · refine m_open_whole wh h24 q4 (q5 p0) (fun h' G g => ⟨_, rfl, fun w => absurd w (show ¬ (0 : Int32) < nI 0 by decide), fun _ => ⟨o168 (G.2.2.1 q4), m_open_open x.2 op (G.2.2.1 q4) (sl_trans (q5 q0) (G.2.2.2.2 q0 (by omega))) (fun h'' r r0 r4 G' => ⟨_, rfl, fun w => absurd w ?_, fun _ => ⟨o168 (G'.2.2.1 (G.2.2.1 q4)), meet h'' (fms_trans G G')⟩⟩)⟩⟩)
        intro w'
        have := (nI_leI (b := 0) (by omega) (by omega)).mp w'
        omega
    refine c_look x.2 hp0 (Or.inl rfl) (fun h1 n op F => ⟨_, rfl, fun _ => ⟨o0 (sp_fr K F), c_f (sp_fr K F) 3 (by decide) (by decide) ⟨_, rfl, _, rfl, mopen h1 (fcs_fr F lkc7) (Or.inl ⟨n, op⟩)⟩⟩, fun w => absurd rfl w⟩) (fun h1 n1 l1 wh1 F1 k1 k1' LF1 => ⟨_, rfl, fun w => absurd w (by decide), fun _ => ⟨o0 (sp_fr K F1), 18, r0_5 (sp_fr K F1), ?_⟩⟩)
    have K1 := sp_fr K F1
    have Fc1 := fcs_fr F1 lkc7
    have xr1 := R1_fcs x.2 Fc1
    refine c_look xr1 hq0 (Or.inr rfl) (fun h2 n op F => ⟨_, rfl, fun w => absurd rfl w, fun _ => ⟨o0 (sp_fr K1 F), c_f (sp_fr K1 F) 3 (by decide) (by decide) ⟨_, rfl, _, rfl, mopen h2 (fcs_trans Fc1 (fcs_fr F lkc18)) (Or.inr ⟨⟨n1, l1, wh1⟩, n, OP_back x.2 Fc1 op⟩)⟩⟩⟩) (fun h2 n2 l2 wh2' F2 k2 k2' LF2 => ⟨_, rfl, fun _ => ?_, fun w => absurd w (by decide)⟩)
    have K2 := sp_fr K1 F2
    have Fc2 := fcs_trans Fc1 (fcs_fr F2 lkc18)
    obtain ⟨wh2, eA2⟩ := WH_back x.2 Fc1 wh2'
    rw [eA2] at LF2
    have h41 := wh1.2.2.1
    have h42 := wh2.2.2.1
    have l9 := wh1.2.2.2.1
    have l9' := wh2.2.2.2.1
    have R1_ := wh1.2.2.2.2.2.2.2
    have R2_ := wh2.2.2.2.2.2.2.2
    have z7 : ah_f h2 7 10 = nI n1 := by rw [fr_f F2 7 (by decide)]; exact k1
    have z7' : ah_f h2 7 11 = nI l1 := by rw [fr_f F2 7 (by decide)]; exact k1'
    have ea := hasE (lb := 7) z7 h41 a
    have eb := hasE (lb := 18) k2 h42 b
    -- arcs of the joined picture
    have exG : ∃ G, n1 + n2 ≤ 40 → JG n1 (4 * n2) (AN (ah_i h (B p0 + 2))) (mt n2 (AN (ah_i h (B q0 + 2)))) G := by
      by_cases w : n1 + n2 ≤ 40
      · obtain ⟨G, J⟩ := JG_ex R1_ R2_ w
        exact ⟨G, fun _ => J⟩
      · exact ⟨fun _ => 0, fun z => absurd z w⟩
    obtain ⟨G, J⟩ := exG
    have exz : ∃ z, n1 + n2 ≤ 40 → fa (us (n1 + n2) (AJ n1 (AN (ah_i h (B p0 + 2))) G)) 0 z := by
      by_cases w : n1 + n2 ≤ 40
      · obtain ⟨z, -, -, -, fz, -⟩ := fa_4 (AJ_Pr R1_ R2_ (J w)) w
        exact ⟨z, fun _ => fz⟩
      · exact ⟨0, fun z => absurd z w⟩
    obtain ⟨zz, fz⟩ := exz
    have mgo : ∀ f, (f = 5 ∧ (¬ ix a (4 * n1) ∨ ¬ ix b (4 * n2))) ∨ (f = 8 ∧ ix a (4 * n1) ∧ ix b (4 * n2) ∧ (40 < n1 + n2 ∨ 9 < l1 + l2)) → ex_S yX12_join mX12_join (d + 4) [.ref 168, .int (nI p0), .int a, .int (nI q0), .int b] (cF h2 f) 0 0 (fun r' h2 => r' = some (.int (-nI (10 + f))) ∧ DONE h h2 W S len) := by
      intro f why
      have f9 : 0 < f ∧ f ≤ 9 := by rcases why with w | w <;> omega
      obtain ⟨q1, q3, q4, q5⟩ := see_f x Fc2 f
      refine m_join_go (G := G) (z := zz) wh1 wh2 q4 (by rw [q1]; exact hN2) hlt q5 a b J fz (fun w h' G' => ?_) (fun ia ib w h' G' => ?_) (fun a0 b0 h' e1 e2 e3 e4 e5 e6 G' D' => ?_)
      · rcases why with ⟨e, -⟩ | ⟨e, i1, i2, -⟩
        · subst e
          exact ⟨rfl, D_f x Fc2 (by decide) (by decide) G'⟩
        · rcases w with w | w
          · exact absurd i1 w
          · exact absurd i2 w
      · rcases why with ⟨e, w'⟩ | ⟨e, -⟩
        · rcases w' with w' | w'
          · exact absurd ia w'
          · exact absurd ib w'
        · subst e
          exact ⟨rfl, D_f x Fc2 (by decide) (by decide) G'⟩
      · rcases why with ⟨e, w'⟩ | ⟨e, -, -, w'⟩
        · rcases w' with w' | w'
          · exact absurd (by rw [e1, ix_nI (by omega)]; exact e2) w'
          · exact absurd (by rw [e3, ix_nI (by omega)]; exact e4) w'
        · omega
    refine ⟨o0 K2, 7, r0_4 K2, o7 K2, hasEC (lk7 K2) a, fun w => c_f K2 5 (by decide) (by decide) ⟨_, rfl, _, rfl, mgo 5 (Or.inl ⟨rfl, Or.inl (ea.mp w)⟩)⟩, fun wa => ⟨18, r0_5 K2, o18 K2, hasEC (lk18 K2) b, fun wb => ?_, fun w => c_f K2 5 (by decide) (by decide) ⟨_, rfl, _, rfl, mgo 5 (Or.inl ⟨rfl, Or.inr (eb.mp w)⟩)⟩⟩⟩
    have ia : ix a (4 * n1) := Classical.not_not.mp (fun w => wa (ea.mpr w))
    have ib : ix b (4 * n2) := Classical.not_not.mp (fun w => wb (eb.mpr w))
    have c40 : (40 : Int32) < nI (n1 + n2) ↔ 40 < n1 + n2 := nI_ltI (a := 40) (by omega) (by omega)
    have c9 : nI (l1 + l2) ≤ 9 ↔ l1 + l2 ≤ 9 := nI_leI (b := 9) (by omega) (by omega)
    rw [z7, k2, z7', k2', nI_add, nI_add, c40, c9]
    refine ⟨fun w => c_f K2 8 (by decide) (by decide) ⟨_, rfl, _, rfl, mgo 8 (Or.inr ⟨rfl, ia, ib, Or.inl w⟩)⟩, fun w40 => ⟨fun w9 => ?_, fun w => c_f K2 8 (by decide) (by decide) ⟨_, rfl, _, rfl, mgo 8 (Or.inr ⟨rfl, ia, ib, Or.inr (by omega)⟩)⟩⟩⟩
    obtain ⟨a0, ha0, ea0⟩ := ix_of ia (by omega)
    obtain ⟨b0, hb0, eb0⟩ := ix_of ib (by omega)
    have h40 : n1 + n2 ≤ 40 := by omega
    have J' := J h40
    have fz' := fz h40
    have RJ := AJ_Pr R1_ R2_ J'
    have hAJ := fun e he => RJ.A100 (e := e) he
    obtain ⟨x1, x2, pt1, -, -, -⟩ := (hP p0 hp0).2
    obtain ⟨u1_, u2, pt2, -, -, -⟩ := (hP q0 hq0).2
    have qq : ∀ t, ah_q h2 1 t = ah_q h 1 t := fun t => by rw [F2.1.2.2.2, F1.1.2.2.2]
    have wh1' : WH h1 N B p0 n1 l1 := by
      have e0 := Fc1.2.1 (B p0) (cscr_no x1)
      have e1 := Fc1.2.1 (B p0 + 1) (cscr_no (by omega))
      have e2 := Fc1.2.1 (B p0 + 2) (cscr_no (by omega))
      unfold WH cD mD
      rw [e0.2.1, e1.2.2.1, e2.2.2.1, (Fc1.2.1 170 (by decide)).2.2.1, (Fc1.2.1 171 (by decide)).2.2.1, (Fc1.2.1 172 (by decide)).2.2.1, (Fc1.2.1 173 (by decide)).2.2.1]
      exact wh1
    -- the draft takes the first picture
    have P1 := pt_fr (pt_fr pt1 F1) F2
    have P2 := pt_fr (pt_fr pt2 F1) F2
    have C1 : cD h2 (B p0) n1 l1 (AN (ah_i h (B p0 + 2))) := cD_sc (cD_sc wh1.2.2.2.2.2.1 F1 ⟨lkc_no (by omega), lkc_no (by omega), lkc_no (by omega)⟩) F2 ⟨lkc_no (by omega), lkc_no (by omega), lkc_no (by omega)⟩
    have C2 : cD h2 (B q0) n2 l2 (AN (ah_i h (B q0 + 2))) := cD_sc (cD_sc wh2.2.2.2.2.2.1 F1 ⟨lkc_no (by omega), lkc_no (by omega), lkc_no (by omega)⟩) F2 ⟨lkc_no (by omega), lkc_no (by omega), lkc_no (by omega)⟩
    refine ⟨29, r0_6 K2, 1, r0_0 K2, (s1 K2 _).mpr ((ix_nI (by omega)).mpr (by omega)), B p0, by rw [nI_clamp (by omega), qq]; exact (hP p0 hp0).1, o29 K2, c_take (d := d + 3) (pt29 K2) P1 (by omega) (fun h3 F3 g0 g1 g2 => ⟨rfl, ?_⟩)⟩
    have K3 := sp_fr K2 F3
    have D3 : cD h3 29 n1 l1 (AN (ah_i h (B p0 + 2))) := by
      obtain ⟨d0, d1, d2, d3⟩ := C1
      refine ⟨?_, ?_, fun c hc => ?_, fun e he => ?_⟩
      · rw [g0, u1_n _ _ (by decide), u1_s]; exact d0
      · rw [g0, u1_s]; exact d1
      · rw [g1, pk_cpy_in (by omega) (by omega), Nat.sub_zero, Nat.zero_add]; exact d2 c hc
      · rw [g2, pk_cpy_in (by omega) (by omega), Nat.sub_zero, Nat.zero_add]; exact d3 e he
    have nb : ∀ c, 216 ≤ c → c ∉ [29, 29 + 1, 29 + 2] := fun c hc => by simp only [List.mem_cons, List.not_mem_nil, or_false]; omega
    refine ⟨o0 K3, 29, r0_6 K3, 1, r0_0 K3, (s1 K3 _).mpr ((ix_nI (by omega)).mpr (by omega)), B q0, by rw [nI_clamp (by omega), F3.1.2.2.2, qq]; exact (hP q0 hq0).1, 18, r0_5 K3, o29 K3, c_append (d := d + 3) (n1 := n1) (n2 := n2) (l2 := l2) (G := G) (pt29 K3) (pt_fr P2 F3) u1_ (lk18 K3) D3 (fun e he => R1_.A100 he) (by rw [fr_f F3 _ (nb _ u1_)]; exact C2.1) (by rw [fr_f F3 _ (nb _ u1_)]; exact C2.2.1) (fun e he => by rw [fr_i F3 19 (by decide)]; exact LF2.1 e he) R2_ J' h40 (fun h4 F4 D4 => ⟨rfl, ?_⟩)⟩
    have K4 := sp_fr K3 F4
    have Fx : fcs h h4 := fcs_trans Fc2 (fcs_trans (fcs_fr F3 (by decide)) (fcs_fr F4 (by decide)))
    have y7 : ah_f h4 7 10 = nI n1 := by rw [fr_f F4 7 (by decide), fr_f F3 7 (by decide)]; exact z7
    have P4 := pt29 K4
    have aa : a0 < 4 * (n1 + n2) := by omega
    have bb : 4 * n1 + b0 < 4 * (n1 + n2) := by omega
    have ma := R1_.lt ha0
    have mb := R2_.lt hb0
    have mb' := R2_.ne hb0
    have v1 : ah_i h4 31 a0 = nI (AN (ah_i h (B p0 + 2)) a0) := by
      have := D4.2.2.2 a0 aa
      rw [AJ_1 ha0] at this
      exact this
    refine ⟨o0 K4, 7, r0_4 K4, o7 K4, fun x54 e54 => ⟨29, r0_6 K4, o29 K4, 31, r29_1 K4, ?_⟩⟩
    have e54' : x54 = nI (4 * n1) := by rw [e54, y7]; exact pk_mul 4 n1
    subst e54'
    rw [ea0, eb0, nI_add, nI_clamp (by omega), nI_clamp (by omega), v1, s31 K4, t31 K4, ix_nI (by omega), ix_nI (by omega)]
    refine ⟨by omega, by omega, fun h59 e59 => ?_⟩
    obtain ⟨F59, D59⟩ := c_putD (b := 29) D4 (4 * n1 + b0) (AN (ah_i h (B p0 + 2)) a0)
    have e59' : h59 = ah_si h4 (29 + 2) (4 * n1 + b0) (nI (AN (ah_i h (B p0 + 2)) a0)) := e59
    rw [← e59'] at F59 D59
    have K59 := sp_fr K4 F59
    have usq := us_put (n := n1 + n2) (A := AJ n1 (AN (ah_i h (B p0 + 2))) G) (x := 4 * n1 + b0) (v := AN (ah_i h (B p0 + 2)) a0) (4 * n1 + mt n2 (AN (ah_i h (B q0 + 2))) b0) (by omega) bb (by omega) (by rw [AJ_2, AJ_2]; exact (JG_eq R2_ J' hb0 mb).mpr (Or.inr rfl)) ⟨a0, aa, AJ_1 ha0⟩
    have A1lt := R1_.A100 ha0
    refine c_freeD (b := 29) (pt29 K59) D59 h40 (u1_lt hAJ A1lt) (fa_congr usq fz') m1p ⟨_, rfl, o0 K59, 29, r0_6 K59, o29 K59, 31, r29_1 K59, 7, r0_4 K59, o7 K59, 8, r7_0 K59, ?_⟩
    have m1v : ah_i h59 8 a0 = nI (mt n1 (AN (ah_i h (B p0 + 2))) a0) := by
      rw [fr_i F59 8 (by decide), fr_i F4 8 (by decide), fr_i F3 8 (by decide), fr_i F2 8 (by decide)]
      exact LF1.1 a0 ha0
    have m2v : ∀ h', fr [29, 29 + 1, 29 + 2] h59 h' → ah_i h' 19 b0 = nI (mt n2 (AN (ah_i h (B q0 + 2))) b0) := fun h' F' => by
      rw [fr_i F' 19 (by decide), fr_i F59 19 (by decide), fr_i F4 19 (by decide), fr_i F3 19 (by decide)]
      exact LF2.1 b0 hb0
    rw [m1v, s8 K59, t31 K59, ix_nI (by omega), ix_nI (by omega), nI_clamp (by omega)]
    refine ⟨by omega, by omega, fun h71 e71 => ⟨18, ?_⟩⟩
    obtain ⟨F71, D71⟩ := c_putD (b := 29) D59 (mt n1 (AN (ah_i h (B p0 + 2))) a0) zz
    have e71' : h71 = ah_si h59 (29 + 2) (mt n1 (AN (ah_i h (B p0 + 2))) a0) (nI zz) := e71
    rw [← e71'] at F71 D71
    have K71 := sp_fr K59 F71
    refine ⟨r0_5 K71, o18 K71, 19, r18_0 K71, ?_⟩
    rw [nI_clamp (n := b0) (by omega), m2v h71 F71, s19 K71, ix_nI (by omega), nI_add, t31 K71, ix_nI (by omega), nI_clamp (by omega)]
    refine ⟨by omega, by omega, fun h77 e77 => ?_⟩
    obtain ⟨F77, D77⟩ := c_putD (b := 29) D71 (4 * n1 + mt n2 (AN (ah_i h (B q0 + 2))) b0) zz
    have e77' : h77 = ah_si h71 (29 + 2) (4 * n1 + mt n2 (AN (ah_i h (B q0 + 2))) b0) (nI zz) := e77
    rw [← e77'] at F77 D77
    have K77 := sp_fr K71 F77
    have Fy : fcs h h77 := fcs_trans Fx (fcs_trans (fcs_fr F59 (by decide)) (fcs_trans (fcs_fr F71 (by decide)) (fcs_fr F77 (by decide))))
    have n77 : ah_n h77 = ah_n h := Fy.1
    have h216 := K.1
    refine c_addLike (d := d + 2) K77 (by rw [(Fy.2.1 0 (by decide)).2.1]; exact hN) hlt (pt29 K77) (by omega) (by decide) (by omega) (fun h80 A80 K80 => ⟨_, rfl, o0 K80, grC K80 _, fun h83 e83 => ⟨_, rfl, ?_⟩⟩)
    have e83' : h83 = cNo h80 (nI 0) := e83
    rw [e83']
    obtain ⟨w1, w2, w3, w4⟩ := see_add x Fy A80 K80
    refine m_join_go (G := G) (z := zz) wh1 wh2 w2 (by rw [w1]; exact hN2) hlt w3 (nI a0) (nI b0) J fz (fun w h' G' => ?_) (fun ia ib w h' G' => ?_) (fun a1 b1 h' e1 e2 e3 e4 e5 e6 G' D' => ?_)
    · rcases w with w | w
      · exact absurd ((ix_nI (by omega)).mpr ha0) w
      · exact absurd ((ix_nI (by omega)).mpr hb0) w
    · omega
    · rw [nI_eq (by omega) (by omega)] at e1 e3
      subst e1
      subst e3
      refine m_added (N := N) (s := 364) (G'.2.2.1 w2) (by rw [G'.2.2.2.1 6 (by decide), w1]; exact hN2) hlt (by decide) (by omega) D'.1 h40 (fun h9 F9 s9 c9 q9 v9 f9 => ⟨_, rfl, rfl, ?_⟩)
      have ae := AL_end h216 Fy A80 G' F9
      have zl := fz'.2.1
      have hAl : ∀ e, e < 4 * (n1 + n2) → jA n1 (AN (ah_i h (B p0 + 2))) G (mt n1 (AN (ah_i h (B p0 + 2)))) (mt n2 (AN (ah_i h (B q0 + 2)))) a0 b0 zz e < 100 := u1_lt (u1_lt (u1_lt hAJ A1lt) zl) zl
      exact D_add x hlt hmax Fy A80 K80 G' F9 s9 q9 v9 f9 (rp_of (n := n1 + n2) (l := l1 + l2) ⟨by rw [ae.1]; exact D77.1, by rw [ae.2.1]; exact D77.2.1, fun c hc => by rw [ae.2.2.1 c (by omega)]; exact D77.2.2.1 c hc, fun e he => by rw [ae.2.2.2 e (by omega)]; exact D77.2.2.2 e he⟩ (mD_sC D' h40 c9) h40 w9 hAl)
  · have hfull : ¬ N < 24 := fun q => nf (fq.mpr q)
    have eN : N = 24 := by omega
    obtain ⟨q1, q3, q4, q5⟩ := see_no x (fcs_refl h) (-nI 3)
    have iv := isP_ (h := cNo h (-nI 3)) (p := p) (N := N) (by rw [q1]; exact hN2) h24
    have iv2 := isP_ (h := cNo h (-nI 3)) (p := q) (N := N) (by rw [q1]; exact hN2) h24
    have ip : ix p N := Classical.not_not.mp (fun w => z (hv.mpr w))
    have iq : ix q N := Classical.not_not.mp (fun w => y (hw.mpr w))
    have w24 : ah_f (cNo h (-nI 3)) 168 6 = 24 := by rw [q1, hN2, eN]; rfl
    exact X12_join_e (X12_join_0 ⟨o168 q4, isPC q4 _, fun w => absurd ip (iv.mp w), fun _ => ⟨isPC q4 _, fun _ => ⟨fun w => absurd w24 w, fun _ => ⟨noC q4 _, fun h8 e8 => ⟨rfl, by rw [e8]; exact D_no x (fcs_refl h) (-nI 3) (fms_refl _)⟩⟩⟩, fun w => absurd iq (iv2.mp w)⟩⟩)
end JOIN2
