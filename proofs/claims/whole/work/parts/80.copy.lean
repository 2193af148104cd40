/-! copy. -/
def rc (l : Nat) (f k : Int32) : Prop := ∃ f0 k0, f = nI f0 ∧ k = nI k0 ∧ f0 + k0 ≤ l
section COPY
variable {h h2 h9 : AH} {d bc bs : Nat} {Q : Option Value → AH → Prop} {W : Nat → Nat} {N : Nat} {B : Nat → Nat} {S : Nat → Int32} {len : Nat}
theorem fp_L {p : Nat} {L : List Nat} {h h1 : AH} {W : Nat → Nat} (F : fr L h h1) (hL : ∀ a, a ∈ L → a ∈ Mscr ∧ a ≠ 168) (s : ∀ s, s ≠ p → sl h h1 s) : fp p W h h1 := by
  have lt : ∀ a, a ∈ L → 168 < a ∧ a < 216 ∧ a ≠ 174 := fun a ha => by
    have := (by decide : ∀ a, a ∈ Mscr → 168 ≤ a ∧ a < 216 ∧ a ≠ 174) a (hL a ha).1
    have := (hL a ha).2
    omega
  exact ⟨⟨by rw [F.1.1]; exact Nat.le_refl _, fun a ha => eqc_fr F (fun q => by have := lt a q; omega)⟩, fun a _ _ z _ _ _ _ _ => eqc_fr F (fun q => z (hL a q).1), fun k _ _ _ => by rw [fr_f F 0 (fun q => by have := lt 0 q; omega)], fun k _ _ _ _ => by rw [fr_f F 168 (fun q => by have := lt 168 q; omega)], fun K => sp_fr K F, fun x => LAC_q x F.1.2.2.1 F.1.2.2.2, fun t _ t2 _ => s t t2, fun q _ => by rw [fr_i F 174 (fun q => by have := lt 174 q; omega)]⟩
theorem nat_or (v : Int32) : v < 0 ∨ ∃ j, j < 2 ^ 31 ∧ v = nI j := by
  by_cases q : v < 0
  · exact Or.inl q
  · exact Or.inr (nI_of q)
theorem nI_neg {j : Nat} (hj : j < 2 ^ 31) : ¬ nI j < 0 := nI_pos hj
theorem reaV {l : Nat} (hl : l ≤ 4) (f k : Int32) (g : AH) : X11_reaches_V (nI l) f k g = 0 ↔ ¬ rc l f k := by
  unfold X11_reaches_V
  rcases nat_or f with q | ⟨f0, hf, q⟩
  · rw [if_pos q]
    refine ⟨fun _ => ?_, fun _ => rfl⟩
    rintro ⟨f0, k0, e1, e2, e3⟩
    rw [e1] at q
    exact nI_neg (by omega) q
  · subst q
    rw [if_neg (nI_neg hf)]
    rcases nat_or k with q | ⟨k0, hk, q⟩
    · rw [if_pos q]
      refine ⟨fun _ => ?_, fun _ => rfl⟩
      rintro ⟨f1, k0, e1, e2, e3⟩
      rw [e2] at q
      exact nI_neg (by omega) q
    · subst q
      rw [if_neg (nI_neg hk)]
      have un : rc l (nI f0) (nI k0) ↔ f0 + k0 ≤ l := by
        constructor
        · rintro ⟨f1, k1, e1, e2, e3⟩
          rw [nI_eq hf (by omega)] at e1
          rw [nI_eq hk (by omega)] at e2
          omega
        · exact fun q => ⟨f0, k0, rfl, rfl, q⟩
      rw [un]
      by_cases q : l < f0
      · rw [if_pos (nI_lt q hf)]
        exact ⟨fun _ => by omega, fun _ => rfl⟩
      · rw [if_neg (nI_nlt (by omega) (by omega)), pk_sub (by omega)]
        by_cases w : l - f0 < k0
        · rw [if_pos (nI_lt w hk)]
          exact ⟨fun _ => by omega, fun _ => rfl⟩
        · rw [if_neg (nI_nlt (by omega) (by omega))]
          exact ⟨fun z => absurd z (by decide), fun z => absurd (by omega) z⟩
theorem l_add {f0 k0 l : Nat} (hf : f0 < 2 ^ 31) (hk : k0 < 2 ^ 31) (hl : l < 2 ^ 31) : (0 < lg_cmp ((nI f0).toInt64 + (nI k0).toInt64) (nI l).toInt64 ↔ l < f0 + k0) ∧ (lg_cmp ((nI f0).toInt64 + (nI k0).toInt64) (nI l).toInt64 ≤ 0 ↔ f0 + k0 ≤ l) := by
  have e : (nI f0).toInt64 + (nI k0).toInt64 = lN (f0 + k0) := by
    rw [nI_l hf, nI_l hk]
    exact (Int64.ofNat_add f0 k0).symm
  rw [e, nI_l hl, lg_cmp_gt, lg_cmp_le, pk_lLT (by omega) (by omega), pk_lLE (by omega) (by omega)]
  exact ⟨Iff.rfl, Iff.rfl⟩
theorem st_copy (x : R0 h W N B S len) (p c f q e t n : Int32) : ST yX11_copy mX11_copy yX12_copy mX12_copy (d + 1) (d + 2) [.int p, .int c, .int f, .int q, .int e, .int t, .int n] h bc bs W S len := by
  have K := x.2.1
  obtain ⟨h24, hN, hN2, hP⟩ := x.2.2.2.2.1
  have hv := hasP (p := p) hN h24
  have hw := hasP (p := q) hN h24
  refine X11_copy_e (X11_copy_0 ⟨o0 K, hasPC K p, fun z => c_no K 2 (by decide) ⟨_, rfl, _, rfl, ?_⟩, fun z => ⟨hasPC K q, fun y => ⟨1, r0_0 K, ?_⟩, fun y => c_no K 2 (by decide) ⟨_, rfl, _, rfl, ?_⟩⟩⟩)
  · obtain ⟨q1, q3, q4, q5⟩ := see_no x (fcs_refl h) (-nI 2)
    have iv := isP_ (h := cNo h (-nI 2)) (p := p) (N := N) (by rw [q1]; exact hN2) h24
    exact X12_copy_e (X12_copy_0 ⟨o168 q4, isPC q4 _, fun _ => ⟨noC q4 _, fun h8 e8 => ⟨rfl, by rw [e8]; exact D_no x (fcs_refl h) (-nI 2) (fms_refl _)⟩⟩, fun w => absurd (iv.mpr (hv.mp z)) w⟩)
  · have ip : ix p N := Classical.not_not.mp (fun w => z (hv.mpr w))
    have iq : ix q N := Classical.not_not.mp (fun w => y (hw.mpr w))
    obtain ⟨p0, hp0, ep⟩ := ix_of ip (by omega)
    obtain ⟨q0, hq0, eq⟩ := ix_of iq (by omega)
    subst ep
    subst eq
    obtain ⟨x1, x2, pt1, ⟨w0, w1, w2⟩, ⟨n1, l1, y1, y2, y3, y4, y5, y6, y7, y8, y9⟩, hh1⟩ := (hP p0 hp0).2
    obtain ⟨u1_, u2, pt2, ⟨v0, v1, v2⟩, ⟨n2, l2, z1, z2, z3, z4, z5, z6, z7, z8, z9⟩, hh2⟩ := (hP q0 hq0).2
    have h40 := y6.1
    have h40' := z6.1
    have bx := pt1.1
    have bx2 := pt2.1
    have hc := hasC y1 h40 c
    have he := hasC z1 h40' e
    -- the reference's way to refuse
    have mf : ∀ k, k = 1 ∨ k = 2 → (¬ ix c n1 ∧ k = 2 ∨ (∃ c0, c0 < n1 ∧ c = nI c0 ∧ (¬ ix e n2 ∧ k = 2 ∨ ∃ e0, e0 < n2 ∧ e = nI e0 ∧ ((ah_i h (B p0 + 1) c0 = m1 ∨ ah_i h (B q0 + 1) e0 = m1) ∧ k = 1 ∨ ∃ a1 a2, a1 ≤ 4 ∧ a2 ≤ 4 ∧ ah_i h (B p0 + 1) c0 = nI a1 ∧ ah_i h (B q0 + 1) e0 = nI a2 ∧ ¬ (rc a1 f n ∧ rc a2 t n) ∧ k = 2)))) → ex_S yX12_copy mX12_copy (d + 2) [.ref 168, .int (nI p0), .int c, .int f, .int (nI q0), .int e, .int t, .int n] (cF h k) 0 0 (fun r' h2 => r' = some (.int (-nI (10 + k))) ∧ DONE h h2 W S len) := by
      intro k hk why
      have k9 : k ≤ 9 := by omega
      obtain ⟨q1, q3, q4, q5⟩ := see_f x (fcs_refl h) k
      have iv := isP_ (h := cF h k) (p := nI p0) (N := N) (by rw [q1]; exact hN2) h24
      have iv2 := isP_ (h := cF h k) (p := nI q0) (N := N) (by rw [q1]; exact hN2) h24
      have fin : ∀ k', k' = k → X12_meets_C 168 (nI k') (cF h k) ∧ ∀ h12, h12 = X12_meets_H 168 (nI k') (cF h k) → (some (Value.int (X12_meets_V 168 (nI k') (cF h k))) = some (.int (-nI (10 + k))) ∧ DONE h h12 W S len) := fun k' ek => by
        subst ek
        exact ⟨meC q4 k9, fun h12 e12 => ⟨by rw [meV], by rw [e12.trans (meH q4 k9)]; exact D_f x (fcs_refl h) (by omega) k9 (fms_refl _)⟩⟩
      have r1 : ah_i (cF h k) 170 p0 = nI n1 := by rw [(q5 p0).1]; exact y2
      have r2 : ah_i (cF h k) 170 q0 = nI n2 := by rw [(q5 q0).1]; exact z2
      refine X12_copy_e (X12_copy_0 ⟨o168 q4, isPC q4 _, fun w => absurd ip (iv.mp w), fun _ => ⟨isPC q4 _, fun _ => ⟨170, r168_2 q4, (s170 q4 _).mpr ((ix_nI (by omega)).mpr (by omega)), ?_⟩, fun w => absurd iq (iv2.mp w)⟩⟩)
      rw [nI_clamp (by omega), nI_clamp (by omega), r1, r2]
      have ic : X12_in_V (Int32.toInt64 c) 0 (Int32.toInt64 (nI n1 - 1)) (cF h k) = 0 ↔ ¬ ix c n1 := inx (by omega) _
      have ie : X12_in_V (Int32.toInt64 e) 0 (Int32.toInt64 (nI n2 - 1)) (cF h k) = 0 ↔ ¬ ix e n2 := inx (by omega) _
      rw [ic, ie]
      refine ⟨fun w => ?_, fun w => ⟨(s170 q4 _).mpr ((ix_nI (by omega)).mpr (by omega)), fun w2 => ⟨172, r168_4 q4, ?_⟩, fun w2 => ?_⟩⟩
      · rcases why with ⟨-, ek⟩ | ⟨c0, hc0, ec, -⟩
        · exact fin 2 ek.symm
        · exact absurd (by rw [ec, ix_nI (by omega)]; exact hc0) w
      · rcases why with ⟨nc, -⟩ | ⟨c0, hc0, ec, why⟩
        · exact absurd nc w
        rcases why with ⟨ne, -⟩ | ⟨e0, he0, ee, why⟩
        · exact absurd ne w2
        subst ec
        subst ee
        have d1 : (40 : Int32) * nI p0 + nI c0 = nI (40 * p0 + c0) := by rw [il_40, pk_mul, nI_add]
        have d2 : (40 : Int32) * nI q0 + nI e0 = nI (40 * q0 + e0) := by rw [il_40, pk_mul, nI_add]
        have t1 : ah_i (cF h k) 172 (40 * p0 + c0) = ah_i h (B p0 + 1) c0 := by rw [(q5 p0).2.2.1 c0 (by omega)]; exact y7 c0 hc0
        have t2 : ah_i (cF h k) 172 (40 * q0 + e0) = ah_i h (B q0 + 1) e0 := by rw [(q5 q0).2.2.1 e0 (by omega)]; exact z7 e0 he0
        rw [d1, d2, s172 q4, s172 q4, ix_nI (by omega), ix_nI (by omega), nI_clamp (by omega), nI_clamp (by omega), t1, t2]
        refine ⟨by omega, fun x17 e17 => ⟨by omega, fun x19 e19 => ?_⟩⟩
        subst e17
        subst e19
        rcases why with ⟨lack, ek⟩ | ⟨a1, a2, ha1, ha2, ea1, ea2, nr, ek⟩
        · rcases lack with lk_ | lk_
          · rw [lk_]
            exact ⟨fun _ => fin 1 ek.symm, fun w => absurd (show m1 < 0 by decide) w⟩
          · refine ⟨fun _ => fin 1 ek.symm, fun _ => ⟨fun w => ?_, fun _ => fin 1 ek.symm⟩⟩
            rw [lk_] at w
            exact absurd w (by decide)
        · rw [ea1, ea2]
          refine ⟨fun w => absurd w (nI_neg (by omega)), fun _ => ⟨fun _ => ⟨fun _ => fin 2 ek.symm, fun f0 => ⟨fun _ => fin 2 ek.symm, fun t0 => ⟨fun _ => fin 2 ek.symm, fun m0 => ?_⟩⟩⟩, fun w => absurd (nI_pos' (by omega)) w⟩⟩
          obtain ⟨f1, hf1, ef⟩ := nI_of f0
          obtain ⟨t1', ht1, et⟩ := nI_of t0
          obtain ⟨k1, hk1, en⟩ := nI_of m0
          subst ef
          subst et
          subst en
          have c1 := l_add (l := a1) hf1 hk1 (by omega)
          have c2 := l_add (l := a2) ht1 hk1 (by omega)
          rw [c1.1, c2.2]
          refine ⟨fun _ => fin 2 ek.symm, fun w => ⟨fun w3 => absurd ⟨⟨f1, k1, rfl, rfl, by omega⟩, ⟨t1', k1, rfl, rfl, w3⟩⟩ nr, fun _ => fin 2 ek.symm⟩⟩
      · rcases why with ⟨nc, -⟩ | ⟨c0, hc0, ec, why⟩
        · exact absurd nc w
        rcases why with ⟨-, ek⟩ | ⟨e0, he0, ee, -⟩
        · exact fin 2 ek.symm
        · exact absurd (by rw [ee, ix_nI (by omega)]; exact he0) w2
    have cf : ∀ k, k = 1 ∨ k = 2 → ex_S yX12_copy mX12_copy (d + 2) [.ref 168, .int (nI p0), .int c, .int f, .int (nI q0), .int e, .int t, .int n] (cF h k) 0 0 (fun r' h2 => r' = some (.int (-nI (10 + k))) ∧ DONE h h2 W S len) → ex_S yX11_refuse mX11_refuse d [.ref 0, .int (-nI (10 + k))] h 0 0 (fun r h16 => ∃ x17, r = some (.int x17) ∧ ∃ v : Int32, some (Value.int x17) = some (.int v) ∧ ex_S yX12_copy mX12_copy (d + 2) [.ref 168, .int (nI p0), .int c, .int f, .int (nI q0), .int e, .int t, .int n] h16 0 0 (fun r' h2 => r' = some (.int v) ∧ DONE h h2 W S len)) := fun k hk m => c_f K k (by omega) (by omega) ⟨_, rfl, _, rfl, m⟩
    refine ⟨(s1 K _).mpr ((ix_nI (by omega)).mpr (by omega)), B p0, by rw [nI_clamp (by omega)]; exact (hP p0 hp0).1, (s1 K _).mpr ((ix_nI (by omega)).mpr (by omega)), B q0, by rw [nI_clamp (by omega)]; exact (hP q0 hq0).1, pt_o pt1, ⟨fun _ => trivial, fun _ => ⟨pt_o pt1, trivial⟩⟩, fun w => cf 2 (by omega) (mf 2 (by omega) (Or.inl ⟨hc.mp w, rfl⟩)), fun wc => ⟨pt_o pt2, ⟨fun _ => trivial, fun _ => ⟨pt_o pt2, trivial⟩⟩, fun we => ⟨B p0 + 1, pt_r0 pt1, ?_⟩, fun w => ?_⟩⟩
    · obtain ⟨c0, hc0, ec⟩ := ix_of (Classical.not_not.mp (fun w => wc (hc.mpr w))) (by omega)
      obtain ⟨e0, he0, ee⟩ := ix_of (Classical.not_not.mp (fun w => we (he.mpr w))) (by omega)
      subst ec
      subst ee
      rw [pt_s0 pt1, ix_nI (by omega), nI_clamp (by omega), nI_clamp (by omega)]
      refine ⟨by omega, fun w => cf 1 (by omega) (mf 1 (by omega) (Or.inr ⟨c0, hc0, rfl, Or.inr ⟨e0, he0, rfl, Or.inl ⟨Or.inl ?_, rfl⟩⟩⟩)), fun w => ⟨B q0 + 1, pt_r0 pt2, ?_⟩⟩
      · rcases y6.2.1 c0 hc0 with g | ⟨a, ha, g⟩
        · exact g
        · rw [g] at w; exact absurd w (nI_neg (by omega))
      rw [pt_s0 pt2, ix_nI (by omega)]
      have g1 : ∃ a1, a1 ≤ 4 ∧ ah_i h (B p0 + 1) c0 = nI a1 := by
        rcases y6.2.1 c0 hc0 with g | g
        · rw [g] at w; exact absurd (show m1 < 0 by decide) w
        · exact g
      obtain ⟨a1, ha1, ea1⟩ := g1
      refine ⟨by omega, fun w2 => ?_, fun w2 => cf 1 (by omega) (mf 1 (by omega) (Or.inr ⟨c0, hc0, rfl, Or.inr ⟨e0, he0, rfl, Or.inl ⟨Or.inr ?_, rfl⟩⟩⟩))⟩
      · have g2 : ∃ a2, a2 ≤ 4 ∧ ah_i h (B q0 + 1) e0 = nI a2 := by
          rcases z6.2.1 e0 he0 with g | g
          · rw [g] at w2; exact absurd w2 (by decide)
          · exact g
        obtain ⟨a2, ha2, ea2⟩ := g2
        have rv1 := reaV ha1 f n h
        have rv2 := reaV ha2 t n h
        rw [ea1, ea2]
        refine ⟨fun r1 => cf 2 (by omega) (mf 2 (by omega) (Or.inr ⟨c0, hc0, rfl, Or.inr ⟨e0, he0, rfl, Or.inr ⟨a1, a2, ha1, ha2, ea1, ea2, fun w => rv1.mp r1 w.1, rfl⟩⟩⟩)), fun r1 => ⟨fun r2 => ⟨⟨pt_o pt2, trivial⟩, fun h34 e34 => ?_⟩, fun r2 => cf 2 (by omega) (mf 2 (by omega) (Or.inr ⟨c0, hc0, rfl, Or.inr ⟨e0, he0, rfl, Or.inr ⟨a1, a2, ha1, ha2, ea1, ea2, fun w => rv2.mp r2 w.2, rfl⟩⟩⟩))⟩⟩
        obtain ⟨f0, k0, ef, en, le1⟩ := Classical.not_not.mp (fun w => r1 (rv1.mpr w))
        obtain ⟨t0, k1, et, en', le2⟩ := Classical.not_not.mp (fun w => r2 (rv2.mpr w))
        subst ef
        subst en
        subst et
        have ek : k1 = k0 := by rw [nI_eq (by omega) (by omega)] at en'; exact en'.symm
        subst ek
        have F0 : fr [B q0, B q0 + 1, B q0 + 2] h h34 := by rw [e34]; exact fr_sf (fr_refl _ h) (by simp only [List.mem_cons, List.not_mem_nil, or_false, true_or, or_true, not_true_eq_false] <;> omega)
        have g0 : ah_f h34 (B q0) = u1 (ah_f h (B q0)) 5 (nI 0) := by rw [e34]; exact f_sf_s _ _ _ _
        have gi : ah_i h34 = ah_i h := by rw [e34]; exact i_sf _ _ _ _
        clear e34
        have P1 := pt_fr pt1 F0
        have P2 := pt_fr pt2 F0
        have K34 := sp_fr K F0
        have s1_ : (4 : Int32) * nI c0 + nI f0 = nI (4 * c0 + f0) := by rw [il_4, pk_mul, nI_add]
        have s2_ : (4 : Int32) * nI e0 + nI t0 = nI (4 * e0 + t0) := by rw [il_4, pk_mul, nI_add]
        rw [s1_, s2_, nI_clamp (by omega), nI_clamp (by omega), nI_clamp (by omega)]
        refine ⟨pt_o P1, B p0 + 2, pt_r1 P1, pt_o P2, B q0 + 2, pt_r1 P2, cp_nI P1.2.2.2.2.2 P2.2.2.2.2.2 (by omega) (by omega) (by omega) (by omega), fun h40_ e40 => ?_⟩
        rw [gi] at e40
        have F2 : fr [B q0, B q0 + 1, B q0 + 2] h h40_ := by rw [e40]; exact fr_wi F0 (by simp only [List.mem_cons, List.not_mem_nil, or_false, true_or, or_true, not_true_eq_false] <;> omega)
        have gb : ah_i h40_ (B q0 + 2) = va_cpy (ah_i h (B p0 + 2)) (ah_i h (B q0 + 2)) (4 * c0 + f0) (4 * e0 + t0) k1 := by rw [e40]; exact i_wi_s _ _ _
        have gb1 : ah_i h40_ (B q0 + 1) = ah_i h (B q0 + 1) := by rw [e40, i_wi_n _ _ _ _ (by omega), gi]
        have gf : ah_f h40_ (B q0) = u1 (ah_f h (B q0)) 5 (nI 0) := by rw [e40, f_wi]; exact g0
        clear e40
        have K40 := sp_fr K F2
        refine ⟨o0 K40, grC K40 _, fun h43 e43 => ⟨_, rfl, ?_⟩⟩
        have e43' : h43 = cNo h40_ (nI 0) := e43
        have fb : fp q0 W h h43 := by
          rw [e43']
          exact fp_trans (fp_fr F2 (fun a ha => by
            simp only [List.mem_cons, List.not_mem_nil, or_false] at ha
            rcases ha with g | g | g
            · rw [g]; exact ⟨u1_, by omega, v0⟩
            · rw [g]; exact ⟨by omega, by omega, v1⟩
            · rw [g]; exact ⟨by omega, by omega, v2⟩)) (fp_f0 (by omega))
        have ci : ah_i h43 = ah_i h40_ := by rw [e43', i_cNo]
        have cff : ∀ a, a ≠ 0 → ah_f h43 a = ah_f h40_ a := fun a ha => by rw [e43']; unfold cNo; rw [f_sf_n _ _ _ _ _ ha]
        have c0_ : ∀ k, ah_f h43 0 k = u1 (ah_f h 0) 19 (nI 0) k := fun k => by rw [e43']; unfold cNo; rw [f_sf_s, fr_f F2 0 (by simp only [List.mem_cons, List.not_mem_nil, or_false, true_or, or_true, not_true_eq_false] <;> omega)]
        have cn_ : ah_n h43 = ah_n h := by rw [e43', n_cNo]; exact F2.1.1
        have ck : ah_k h43 = ah_k h := by rw [e43', k_cNo]; exact F2.1.2.1
        have cr : ah_r h43 = ah_r h := by rw [e43', r_cNo]; exact F2.1.2.2.1
        clear e43 e43'
        have K1 := fb.2.2.2.2.1 K
        have mi : ∀ a, a < 216 → ah_i h43 a = ah_i h a := fun a ha => by rw [ci]; exact fr_i F2 a (by simp only [List.mem_cons, List.not_mem_nil, or_false, true_or, or_true, not_true_eq_false] <;> omega)
        have q6 : ah_f h43 168 6 = nI N := by rw [cff 168 (by decide), fr_f F2 168 (by simp only [List.mem_cons, List.not_mem_nil, or_false, true_or, or_true, not_true_eq_false] <;> omega)]; exact hN2
        have iv := isP_ (h := h43) (p := nI p0) (N := N) q6 h24
        have iv2 := isP_ (h := h43) (p := nI q0) (N := N) q6 h24
        refine X12_copy_e (X12_copy_0 ⟨o168 K1, isPC K1 _, fun w => absurd ip (iv.mp w), fun _ => ⟨isPC K1 _, fun _ => ⟨170, r168_2 K1, (s170 K1 _).mpr ((ix_nI (by omega)).mpr (by omega)), ?_⟩, fun w => absurd iq (iv2.mp w)⟩⟩)
        rw [nI_clamp (by omega), nI_clamp (by omega), mi 170 (by decide), y2, z2]
        have ic : X12_in_V (Int32.toInt64 (nI c0)) 0 (Int32.toInt64 (nI n1 - 1)) h43 = 0 ↔ ¬ ix (nI c0) n1 := inx (by omega) _
        have ie : X12_in_V (Int32.toInt64 (nI e0)) 0 (Int32.toInt64 (nI n2 - 1)) h43 = 0 ↔ ¬ ix (nI e0) n2 := inx (by omega) _
        rw [ic, ie]
        have d1 : (40 : Int32) * nI p0 + nI c0 = nI (40 * p0 + c0) := by rw [il_40, pk_mul, nI_add]
        have d2 : (40 : Int32) * nI q0 + nI e0 = nI (40 * q0 + e0) := by rw [il_40, pk_mul, nI_add]
        refine ⟨fun w => absurd ((ix_nI (by omega)).mpr hc0) w, fun _ => ⟨(s170 K1 _).mpr ((ix_nI (by omega)).mpr (by omega)), fun _ => ⟨172, r168_4 K1, ?_⟩, fun w => absurd ((ix_nI (by omega)).mpr he0) w⟩⟩
        rw [d1, d2, s172 K1, s172 K1, ix_nI (by omega), ix_nI (by omega), nI_clamp (by omega), nI_clamp (by omega), mi 172 (by decide), y7 c0 hc0, z7 e0 he0, ea1, ea2]
        have cl1 := l_add (f0 := f0) (k0 := k1) (l := a1) (by omega) (by omega) (by omega)
        have cl2 := l_add (f0 := t0) (k0 := k1) (l := a2) (by omega) (by omega) (by omega)
        refine ⟨by omega, fun x17 e17 => ⟨by omega, fun x19 e19 => ?_⟩⟩
        subst e17
        subst e19
        rw [cl1.1, cl2.2]
        refine ⟨fun w => absurd w (nI_neg (by omega)), fun _ => ⟨fun _ => ⟨fun w => absurd w (nI_neg (by omega)), fun _ => ⟨fun w => absurd w (nI_neg (by omega)), fun _ => ⟨fun w => absurd w (nI_neg (by omega)), fun _ => ⟨fun w => by omega, fun _ => ⟨fun _ => ?_, fun w => absurd le2 w⟩⟩⟩⟩⟩, fun w => absurd (nI_pos' (by omega)) w⟩⟩
        refine lp k1 (fun j h' => fr [175] h43 h' ∧ ∀ i, i < j → ah_i h' 175 i = ah_i h 173 (160 * p0 + 4 * c0 + f0 + i)) (fun j h' => ex_G mX12_copy (d + 2) 162 [.ref 168, .int (nI p0), .int (nI c0), .int (nI f0), .int (nI q0), .int (nI e0), .int (nI t0), .int (nI k1), .retAddr 0, .retAddr 0, .int (nI j)] [] h' 0 0 (fun r' h2 => r' = some (.int 1) ∧ DONE h h2 W S len)) ⟨fr_refl _ _, fun i hi => absurd hi (Nat.not_lt_zero i)⟩ ?_ ?_
        · rintro j h5 hj ⟨F5, g5⟩ nx
          have K5 := sp_fr K1 F5
          have m5 : ah_i h5 173 = ah_i h 173 := by rw [fr_i F5 173 (by decide)]; exact mi 173 (by decide)
          refine X12_copy_162 ?_
          simp (disch := omega) only [o168 K5, r168_5 K5, s173 K5, t173 K5, r168_8 K5, s175 K5, t175 K5, m5, forall_eq, Option.some.injEq, exists_eq_left', Option.getD_some, n_sf, k_sf, f_sf_s, f_sf_n, r_sf, i_sf, l_sf, q_sf, ld0_sf, st0_sf, ld1_sf, ld2_sf, ld3_sf, ah_o_sf, in__sf, cp__sf, ah_x_sf, ah_ra_sf, n_si, k_si, f_si, r_si, i_si_s, i_si_n, l_si, q_si, ld0_si, st0_si, ld1_si, ld2_si, ld3_si, ah_o_si, in__si, cp__si, ah_x_si, ah_ra_si, n_sl, k_sl, f_sl, r_sl, i_sl, l_sl_s, l_sl_n, q_sl, ld0_sl, st0_sl, ld1_sl, ld2_sl, ld3_sl, ah_o_sl, in__sl, cp__sl, ah_x_sl, ah_ra_sl, n_wi, k_wi, f_wi, r_wi, i_wi_s, i_wi_n, l_wi, q_wi, ld0_wi, st0_wi, ld1_wi, ld2_wi, ld3_wi, ah_o_wi, in__wi, cp__wi, ah_x_wi, ah_ra_wi, n_wl, k_wl, f_wl, r_wl, i_wl, l_wl_s, l_wl_n, q_wl, ld0_wl, st0_wl, ld1_wl, ld2_wl, ld3_wl, ah_o_wl, in__wl, cp__wl, ah_x_wl, ah_ra_wl, n_sr, k_sr, f_sr, r_sr_s, r_sr_n, i_sr, l_sr, q_sr, n_sq, k_sq, f_sq, r_sq, i_sq, l_sq, q_sq_s, q_sq_n, il_0, il_1, il_2, il_3, il_4, il_5, il_6, il_7, il_8, il_9, il_10, il_11, il_12, il_13, il_14, il_15, il_16, il_17, il_18, il_19, il_20, il_24, il_30, il_31, il_38, il_39, il_40, il_41, il_48, il_50, il_59, il_60, il_63, il_64, il_70, il_80, il_99, il_100, il_120, il_130, il_140, il_144, il_159, il_160, il_162, il_200, il_210, il_240, il_264, il_280, il_281, il_300, il_364, il_368, il_599, il_600, il_601, il_999, il_1610, il_1620, il_1800, il_4000, il_5000, il_7000, il_14500, il_58240, il_1000000, m1_e, nI_1, nI_add, pk_mul, pk_div, pk_sub, nI_clamp, nI_leI, nI_ltI, nI_eq, m1_lt, m1_le, m1_gt, m1_ge, m1_ne, m1_en, ix_nI, im_nI, and1, and3, sh2_, shr2, corner_nI, turned_nI]
          refine ⟨fun w => by omega, fun _ => ⟨trivial, by omega, by omega, nx _ ⟨fr_si F5 (by decide), fun i hi => ?_⟩⟩⟩
          rw [i_si_s]
          by_cases qj : i = j
          · rw [qj, u1_s]
          · rw [u1_n _ _ qj]; exact g5 i (by omega)
        · rintro h5 ⟨F5, g5⟩
          refine X12_copy_162 ?_
          simp (disch := omega) only [forall_eq, Option.some.injEq, exists_eq_left', Option.getD_some, n_sf, k_sf, f_sf_s, f_sf_n, r_sf, i_sf, l_sf, q_sf, ld0_sf, st0_sf, ld1_sf, ld2_sf, ld3_sf, ah_o_sf, in__sf, cp__sf, ah_x_sf, ah_ra_sf, n_si, k_si, f_si, r_si, i_si_s, i_si_n, l_si, q_si, ld0_si, st0_si, ld1_si, ld2_si, ld3_si, ah_o_si, in__si, cp__si, ah_x_si, ah_ra_si, n_sl, k_sl, f_sl, r_sl, i_sl, l_sl_s, l_sl_n, q_sl, ld0_sl, st0_sl, ld1_sl, ld2_sl, ld3_sl, ah_o_sl, in__sl, cp__sl, ah_x_sl, ah_ra_sl, n_wi, k_wi, f_wi, r_wi, i_wi_s, i_wi_n, l_wi, q_wi, ld0_wi, st0_wi, ld1_wi, ld2_wi, ld3_wi, ah_o_wi, in__wi, cp__wi, ah_x_wi, ah_ra_wi, n_wl, k_wl, f_wl, r_wl, i_wl, l_wl_s, l_wl_n, q_wl, ld0_wl, st0_wl, ld1_wl, ld2_wl, ld3_wl, ah_o_wl, in__wl, cp__wl, ah_x_wl, ah_ra_wl, n_sr, k_sr, f_sr, r_sr_s, r_sr_n, i_sr, l_sr, q_sr, n_sq, k_sq, f_sq, r_sq, i_sq, l_sq, q_sq_s, q_sq_n, il_0, il_1, il_2, il_3, il_4, il_5, il_6, il_7, il_8, il_9, il_10, il_11, il_12, il_13, il_14, il_15, il_16, il_17, il_18, il_19, il_20, il_24, il_30, il_31, il_38, il_39, il_40, il_41, il_48, il_50, il_59, il_60, il_63, il_64, il_70, il_80, il_99, il_100, il_120, il_130, il_140, il_144, il_159, il_160, il_162, il_200, il_210, il_240, il_264, il_280, il_281, il_300, il_364, il_368, il_599, il_600, il_601, il_999, il_1610, il_1620, il_1800, il_4000, il_5000, il_7000, il_14500, il_58240, il_1000000, m1_e, nI_1, nI_add, pk_mul, pk_div, pk_sub, nI_clamp, nI_leI, nI_ltI, nI_eq, m1_lt, m1_le, m1_gt, m1_ge, m1_ne, m1_en, ix_nI, im_nI, and1, and3, sh2_, shr2, corner_nI, turned_nI]
          refine ⟨fun _ => ?_, fun w => (by first | omega | exact absurd trivial z | exact z.elim | exact absurd rfl z)⟩
          refine lp k1 (fun j h' => fr [173, 175] h43 h' ∧ ah_i h' 175 = ah_i h5 175 ∧ ∀ i, ah_i h' 173 i = if 160 * q0 + 4 * e0 + t0 ≤ i ∧ i < 160 * q0 + 4 * e0 + t0 + j then ah_i h 173 (160 * p0 + 4 * c0 + f0 + (i - (160 * q0 + 4 * e0 + t0))) else ah_i h 173 i) (fun j h' => ex_G mX12_copy (d + 2) 204 [.ref 168, .retAddr 0, .retAddr 0, .retAddr 0, .int (nI q0), .int (nI e0), .int (nI t0), .int (nI k1), .retAddr 0, .retAddr 0, .int (nI j)] [] h' 0 0 (fun r' h2 => r' = some (.int 1) ∧ DONE h h2 W S len)) ⟨fr_mono F5 (by decide), rfl, fun i => by rw [if_neg (by omega), fr_i F5 173 (by decide), mi 173 (by decide)]⟩ ?_ ?_
          · rintro j h6 hj ⟨F6, g6, v6⟩ nx
            have K6 := sp_fr K1 F6
            refine X12_copy_204 ?_
            simp (disch := omega) only [o168 K6, r168_5 K6, s173 K6, t173 K6, r168_7 K6, s174 K6, t174 K6, r168_8 K6, s175 K6, t175 K6, forall_eq, Option.some.injEq, exists_eq_left', Option.getD_some, n_sf, k_sf, f_sf_s, f_sf_n, r_sf, i_sf, l_sf, q_sf, ld0_sf, st0_sf, ld1_sf, ld2_sf, ld3_sf, ah_o_sf, in__sf, cp__sf, ah_x_sf, ah_ra_sf, n_si, k_si, f_si, r_si, i_si_s, i_si_n, l_si, q_si, ld0_si, st0_si, ld1_si, ld2_si, ld3_si, ah_o_si, in__si, cp__si, ah_x_si, ah_ra_si, n_sl, k_sl, f_sl, r_sl, i_sl, l_sl_s, l_sl_n, q_sl, ld0_sl, st0_sl, ld1_sl, ld2_sl, ld3_sl, ah_o_sl, in__sl, cp__sl, ah_x_sl, ah_ra_sl, n_wi, k_wi, f_wi, r_wi, i_wi_s, i_wi_n, l_wi, q_wi, ld0_wi, st0_wi, ld1_wi, ld2_wi, ld3_wi, ah_o_wi, in__wi, cp__wi, ah_x_wi, ah_ra_wi, n_wl, k_wl, f_wl, r_wl, i_wl, l_wl_s, l_wl_n, q_wl, ld0_wl, st0_wl, ld1_wl, ld2_wl, ld3_wl, ah_o_wl, in__wl, cp__wl, ah_x_wl, ah_ra_wl, n_sr, k_sr, f_sr, r_sr_s, r_sr_n, i_sr, l_sr, q_sr, n_sq, k_sq, f_sq, r_sq, i_sq, l_sq, q_sq_s, q_sq_n, il_0, il_1, il_2, il_3, il_4, il_5, il_6, il_7, il_8, il_9, il_10, il_11, il_12, il_13, il_14, il_15, il_16, il_17, il_18, il_19, il_20, il_24, il_30, il_31, il_38, il_39, il_40, il_41, il_48, il_50, il_59, il_60, il_63, il_64, il_70, il_80, il_99, il_100, il_120, il_130, il_140, il_144, il_159, il_160, il_162, il_200, il_210, il_240, il_264, il_280, il_281, il_300, il_364, il_368, il_599, il_600, il_601, il_999, il_1610, il_1620, il_1800, il_4000, il_5000, il_7000, il_14500, il_58240, il_1000000, m1_e, nI_1, nI_add, pk_mul, pk_div, pk_sub, nI_clamp, nI_leI, nI_ltI, nI_eq, m1_lt, m1_le, m1_gt, m1_ge, m1_ne, m1_en, ix_nI, im_nI, and1, and3, sh2_, shr2, corner_nI, turned_nI]
            refine ⟨fun w => by omega, fun _ => ⟨trivial, by omega, by omega, nx _ ⟨fr_si F6 (by decide), ?_, fun i => ?_⟩⟩⟩
            · rw [i_si_n _ _ _ _ _ (by decide)]; exact g6
            · rw [i_si_s, g6, g5 j hj]
              unfold u1
              by_cases qi : i = 160 * q0 + 4 * e0 + t0 + j
              · rw [if_pos qi, if_pos (by omega), show i - (160 * q0 + 4 * e0 + t0) = j by omega]
              · rw [if_neg qi, v6 i]
                by_cases w : 160 * q0 + 4 * e0 + t0 ≤ i ∧ i < 160 * q0 + 4 * e0 + t0 + j
                · rw [if_pos w, if_pos (by omega)]
                · rw [if_neg w, if_neg (by omega)]
          · rintro h6 ⟨F6, g6, v6⟩
            have K6 := sp_fr K1 F6
            have hq24 : q0 < 24 := by omega
            have key : ∀ h9, h9 = mNo (ah_si h6 174 q0 (nI 0)) (nI 0) → DONE h h9 W S len := by
              intro h9 e9
              have F9 : fr [168, 173, 174, 175] h43 h9 := by rw [e9]; exact fr_sf (fr_si (fr_mono F6 (by decide)) (by decide)) (by decide)
              have f9 : ah_f h9 168 = u1 (ah_f h43 168) 0 (nI 0) := by rw [e9]; unfold mNo; rw [f_sf_s, f_si, fr_f F6 168 (by decide)]
              have i93 : ah_i h9 173 = ah_i h6 173 := by rw [e9, i_mNo, i_si_n _ _ _ _ _ (by decide)]
              have i94 : ah_i h9 174 q0 = nI 0 := by rw [e9, i_mNo, i_si_s, u1_s]
              have s6 : ∀ u, u ≠ q0 → sl h43 h6 u := fun u hu => ⟨by rw [fr_i F6 170 (by decide)], by rw [fr_i F6 171 (by decide)], fun _ _ => by rw [fr_i F6 172 (by decide)], fun i hi => by rw [v6, if_neg (by omega), mi 173 (by decide)]⟩
              have FF : fp q0 W h h9 := by
                rw [e9]
                exact fp_trans fb (fp_trans (fp_L F6 (by decide) (fun u hu => s6 u hu)) (fp_trans fp_174 (fp_f168 (by omega))))
              have nb : ∀ a, 216 ≤ a → a ∉ [168, 173, 174, 175] := fun a ha => by simp only [List.mem_cons, List.not_mem_nil, or_false]; omega
              have cA : ah_i h9 (B q0 + 2) = va_cpy (ah_i h (B p0 + 2)) (ah_i h (B q0 + 2)) (4 * c0 + f0) (4 * e0 + t0) k1 := by rw [fr_i F9 _ (nb _ (by omega)), ci]; exact gb
              have cL : ah_i h9 (B q0 + 1) = ah_i h (B q0 + 1) := by rw [fr_i F9 _ (nb _ (by omega)), ci]; exact gb1
              have cF_ : ah_f h9 (B q0) = u1 (ah_f h (B q0)) 5 (nI 0) := by rw [fr_f F9 _ (nb _ (by omega)), cff _ (by omega)]; exact gf
              refine D_edit x hq0 FF (by rw [F9.1.1]; exact cn_) (by rw [F9.1.2.1]; exact ck) (by rw [F9.1.2.2.1]; exact cr) (fun k => by rw [fr_f F9 0 (by decide)]; exact c0_ k) (fun k => by rw [f9, cff 168 (by decide), fr_f F2 168 (by simp only [List.mem_cons, List.not_mem_nil, or_false, true_or, or_true, not_true_eq_false] <;> omega)]) (by rw [fr_i F9 167 (by decide)]; exact mi 167 (by decide)) (by rw [fr_i F9 169 (by decide)]; exact mi 169 (by decide)) (by rw [cF_, u1_s]) (by rw [cF_, u1_n _ _ (by decide)]) i94 ⟨n2, l2, ?_, ?_, z3, ?_, ?_, ?_, ?_, ?_, ?_⟩
              · rw [cF_, u1_n _ _ (by decide)]; exact z1
              · rw [fr_i F9 170 (by decide), mi 170 (by decide)]; exact z2
              · rw [cF_, u1_n _ _ (by decide)]; exact z4
              · rw [fr_i F9 171 (by decide), mi 171 (by decide)]; exact z5
              · rw [cL, cA]
                refine ⟨h40', z6.2.1, fun i hi => ?_⟩
                by_cases w : 4 * e0 + t0 ≤ i ∧ i < 4 * e0 + t0 + k1
                · rw [pk_cpy_in w.1 w.2]; exact y6.2.2 _ (by omega)
                · rw [pk_cpy_out (by omega)]; exact z6.2.2 i hi
              · rw [cL, fr_i F9 172 (by decide), mi 172 (by decide)]; exact z7
              · intro i hi
                rw [cA, i93, v6]
                by_cases w : 4 * e0 + t0 ≤ i ∧ i < 4 * e0 + t0 + k1
                · rw [pk_cpy_in w.1 w.2, if_pos (by omega), show 160 * p0 + 4 * c0 + f0 + (160 * q0 + i - (160 * q0 + 4 * e0 + t0)) = 160 * p0 + (4 * c0 + f0 + (i - (4 * e0 + t0))) by omega]
                  exact y8 _ (by omega)
                · rw [pk_cpy_out (by omega), if_neg (by omega)]; exact z8 i hi
              · rw [cL, cA]
                intro c' i' hc' hi' hl'
                rw [pk_cpy_out]
                · exact z9 c' i' hc' hi' hl'
                · by_cases w : c' = e0
                  · subst w
                    have := hl' a2 ha2 ea2
                    omega
                  · omega
            refine X12_copy_204 ?_
            simp (disch := omega) only [o168 K6, r168_5 K6, s173 K6, t173 K6, r168_7 K6, s174 K6, t174 K6, r168_8 K6, s175 K6, t175 K6, forall_eq, Option.some.injEq, exists_eq_left', Option.getD_some, n_sf, k_sf, f_sf_s, f_sf_n, r_sf, i_sf, l_sf, q_sf, ld0_sf, st0_sf, ld1_sf, ld2_sf, ld3_sf, ah_o_sf, in__sf, cp__sf, ah_x_sf, ah_ra_sf, n_si, k_si, f_si, r_si, i_si_s, i_si_n, l_si, q_si, ld0_si, st0_si, ld1_si, ld2_si, ld3_si, ah_o_si, in__si, cp__si, ah_x_si, ah_ra_si, n_sl, k_sl, f_sl, r_sl, i_sl, l_sl_s, l_sl_n, q_sl, ld0_sl, st0_sl, ld1_sl, ld2_sl, ld3_sl, ah_o_sl, in__sl, cp__sl, ah_x_sl, ah_ra_sl, n_wi, k_wi, f_wi, r_wi, i_wi_s, i_wi_n, l_wi, q_wi, ld0_wi, st0_wi, ld1_wi, ld2_wi, ld3_wi, ah_o_wi, in__wi, cp__wi, ah_x_wi, ah_ra_wi, n_wl, k_wl, f_wl, r_wl, i_wl, l_wl_s, l_wl_n, q_wl, ld0_wl, st0_wl, ld1_wl, ld2_wl, ld3_wl, ah_o_wl, in__wl, cp__wl, ah_x_wl, ah_ra_wl, n_sr, k_sr, f_sr, r_sr_s, r_sr_n, i_sr, l_sr, q_sr, n_sq, k_sq, f_sq, r_sq, i_sq, l_sq, q_sq_s, q_sq_n, il_0, il_1, il_2, il_3, il_4, il_5, il_6, il_7, il_8, il_9, il_10, il_11, il_12, il_13, il_14, il_15, il_16, il_17, il_18, il_19, il_20, il_24, il_30, il_31, il_38, il_39, il_40, il_41, il_48, il_50, il_59, il_60, il_63, il_64, il_70, il_80, il_99, il_100, il_120, il_130, il_140, il_144, il_159, il_160, il_162, il_200, il_210, il_240, il_264, il_280, il_281, il_300, il_364, il_368, il_599, il_600, il_601, il_999, il_1610, il_1620, il_1800, il_4000, il_5000, il_7000, il_14500, il_58240, il_1000000, nI_clamp, ix_nI, nI_leI, weV, weH]
            exact ⟨fun _ => ⟨trivial, hq24, weC (sp_fr (L := [174]) K6 (fr_si (fr_refl _ _) (by decide))) _, trivial, key _ rfl⟩, fun w => absurd (Nat.le_refl k1) w⟩
      · rcases z6.2.1 e0 he0 with g | ⟨a, ha, g⟩
        · exact g
        · rw [g] at w2; exact absurd (nI_pos' (by omega)) w2
    · obtain ⟨c0, hc0, ec⟩ := ix_of (Classical.not_not.mp (fun w => wc (hc.mpr w))) (by omega)
      exact cf 2 (by omega) (mf 2 (by omega) (Or.inr ⟨c0, hc0, ec, Or.inl ⟨he.mp w, rfl⟩⟩))
  · obtain ⟨q1, q3, q4, q5⟩ := see_no x (fcs_refl h) (-nI 2)
    have iv := isP_ (h := cNo h (-nI 2)) (p := p) (N := N) (by rw [q1]; exact hN2) h24
    have iv2 := isP_ (h := cNo h (-nI 2)) (p := q) (N := N) (by rw [q1]; exact hN2) h24
    have fin : X12_no_C 168 (-2) (cNo h (-nI 2)) ∧ ∀ h5, h5 = X12_no_H 168 (-2) (cNo h (-nI 2)) → (some (Value.int (X12_no_V 168 (-2) (cNo h (-nI 2)))) = some (.int (-nI 2)) ∧ DONE h h5 W S len) := ⟨noC q4 _, fun h8 e8 => ⟨rfl, by rw [e8]; exact D_no x (fcs_refl h) (-nI 2) (fms_refl _)⟩⟩
    exact X12_copy_e (X12_copy_0 ⟨o168 q4, isPC q4 _, fun _ => fin, fun _ => ⟨isPC q4 _, fun w => absurd (iv2.mpr (hw.mp y)) w, fun _ => fin⟩⟩)
end COPY
