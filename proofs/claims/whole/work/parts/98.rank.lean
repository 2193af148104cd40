/-! Colouring: the rank, the class. -/
theorem EI_mono {m : Nat} {A M : Nat → Nat → Int} {n s r : Nat} {C C' : Nat → Prop} (E : EI m A M n s r C) (h : ∀ x, C' x → C x) : EI m A M n s r C' := ⟨E.1, E.2.1, E.2.2.1, fun i a b c q => E.2.2.2 i a b c (h c q)⟩
theorem md_dvd (m a : Nat) : (m : Int) ∣ ((a % m : Nat) : Int) - (a : Int) := by
  refine ⟨-((a / m : Nat) : Int), ?_⟩
  have := Nat.div_add_mod a m
  have h : ((m * (a / m) + a % m : Nat) : Int) = (a : Int) := by rw [this]
  rw [Int.natCast_add, Int.natCast_mul] at h
  rw [Int.mul_neg]
  omega
section RANK
variable {h : AH} {d bc bs n s m : Nat} {Q : Option Value → AH → Prop} {g : Nat → Nat} {V : Nat → Nat → Nat}
/-- rows and the heap's other cells -/
def fP (h h' : AH) : Prop := ah_n h' = ah_n h ∧ ah_k h' = ah_k h ∧ ah_r h' = ah_r h ∧ (∀ a, a ∉ rwc → ah_f h' a = ah_f h a ∧ ah_i h' a = ah_i h a ∧ ah_l h' a = ah_l h a) ∧ ∀ a, a ≠ 84 → ah_q h' a = ah_q h a
theorem fP_fr {h h' : AH} (x : fr rwc h h') : fP h h' := ⟨x.1.1, x.1.2.1, x.1.2.2.1, x.2, fun a _ => by rw [x.1.2.2.2]⟩
theorem fP_refl (h : AH) : fP h h := fP_fr (fr_refl _ h)
theorem fP_sq (h : AH) (k : Nat) (v : Option Nat) : fP h (ah_sq h 84 k v) := ⟨n_sq _ _ _ _, k_sq _ _ _ _, r_sq _ _ _ _, fun a _ => ⟨by rw [f_sq], by rw [i_sq], by rw [l_sq]⟩, fun a ha => q_sq_n _ _ _ _ _ ha⟩
theorem fP_trans {h h1 h2 : AH} (x : fP h h1) (y : fP h1 h2) : fP h h2 := ⟨y.1.trans x.1, y.2.1.trans x.2.1, y.2.2.1.trans x.2.2.1, fun a ha => ⟨(y.2.2.2.1 a ha).1.trans (x.2.2.2.1 a ha).1, (y.2.2.2.1 a ha).2.1.trans (x.2.2.2.1 a ha).2.1, (y.2.2.2.1 a ha).2.2.trans (x.2.2.2.1 a ha).2.2⟩, fun a ha => (y.2.2.2.2 a ha).trans (x.2.2.2.2 a ha)⟩
theorem fP_sp {h h' : AH} (K : sp h) (x : fP h h') : sp h' := ⟨by rw [x.1]; exact K.1, fun a ha => by rw [x.2.1]; exact K.2.1 a ha, fun t ht => by rw [x.2.2.1]; exact K.2.2 t ht⟩
theorem c_rank (K : sp h) (im : inv_ m) (pm : prm m) (R : RW h g V n s m) (h40 : n ≤ 40) (hs : s ≤ 80) (hst : ah_f h 82 2 = nI s)
    (k : ∀ h' g' V' r, fP h h' → RW h' g' V' n s m → EL m (fun i c => (V i c : Int)) n s r → r ≤ n → Q (some (.int (nI r))) h') : ex_S yX1_rank mX1_rank (d + 2) [.ref 82, .int (nI n), .int (nI m)] h bc bs Q := by
  have m11 := im.2.1
  refine X1_rank_e (X1_rank_0 ?_)
  refine lp (σ := AH × Nat) s (fun c z => fP h z.1 ∧ ∃ g' V', RW z.1 g' V' n s m ∧ EI m (fun i c => (V i c : Int)) (fun i c => (V' i c : Int)) n s z.2 (fun x => x < c)) (fun c z => ex_G mX1_rank (d + 2) 5 [.ref 82, .int (nI n), .int (nI m), .int (nI z.2), .int (nI c), .retAddr 0, .retAddr 0] [] z.1 bc bs Q) (s := (h, 0)) ⟨fP_refl h, g, V, R, EI_mono (EI_0 _ n s) (fun x hx => absurd hx (Nat.not_lt_zero x))⟩ ?_ ?_
  · rintro c ⟨h1, r⟩ hc ⟨F1, g1, V1, R1, E1⟩ nx
    have K1 := fP_sp K F1
    have rn := E1.2.2.1
    have f1 : ah_f h1 82 2 = nI s := by rw [(F1.2.2.2.1 82 (rwc_no (by omega))).1]; exact hst
    refine X1_rank_5 ⟨o82 K1, fun w => ?_, fun _ => ⟨fun w => ?_, fun w => ?_⟩⟩
    · rw [f1, nI_leI (by omega) (by omega)] at w
      omega
    · rw [nI_leI (by omega) (by omega)] at w
      exact k h1 g1 V1 r F1 R1 (EI_end E1 (Or.inr (by omega))) rn
    rw [nI_leI (by omega) (by omega)] at w
    refine c_pivotOf K1 R1 h40 hs (by omega) hc (by omega) (fun q hq1 hq2 vq => ⟨_, rfl, fun z => ?_, fun _ => ?_⟩) (fun z0 => ⟨_, rfl, fun _ x7 e7 => ?_, fun z => absurd (show m1 < 0 by decide) z⟩)
    · have := (nI_ltI (b := 0) (by omega) (by omega)).mp z
      omega
    · obtain ⟨a1, a2⟩ := R1.1 q (by omega)
      obtain ⟨b1, b2⟩ := R1.1 r (by omega)
      refine ⟨o82 K1, 84, r82_1 K1, (s84 K1 _).mpr ((ix_nI (by omega)).mpr (by omega)), 85 + g1 q, by rw [nI_clamp (by omega)]; exact a1, (s84 K1 _).mpr ((ix_nI (by omega)).mpr (by omega)), 85 + g1 r, by rw [nI_clamp (by omega)]; exact b1, ⟨_, rw_x K1 b2⟩, fun h14 e14 => ?_⟩
      rw [nI_clamp (by omega)] at e14
      have F14 : fP h1 h14 := by rw [e14]; exact fP_sq _ _ _
      have K14 := fP_sp K1 F14
      refine ⟨⟨_, rw_x K14 a2⟩, fun h16 e16 => ?_⟩
      rw [nI_clamp (by omega)] at e16
      have F16 : fP h1 h16 := fP_trans F14 (by rw [e16]; exact fP_sq _ _ _)
      have K16 := fP_sp K1 F16
      have q16 : ah_q h16 84 = u1 (u1 (ah_q h1 84) q (some (85 + g1 r))) r (some (85 + g1 q)) := by rw [e16, q_sq_s, e14, q_sq_s]
      have i16 : ah_i h16 = ah_i h1 := by rw [e16, i_sq, e14, i_sq]
      have f16 : ah_f h16 82 2 = nI s := by rw [(F16.2.2.2.1 82 (rwc_no (by omega))).1]; exact f1
      obtain ⟨π, hπ⟩ : ∃ π : Nat → Nat, ∀ i, π i = if i = r then q else if i = q then r else i := ⟨fun i => if i = r then q else if i = q then r else i, fun _ => rfl⟩
      have πr : π r = q := by rw [hπ, if_pos rfl]
      have πq : π q = r := by
        rw [hπ]
        by_cases z : q = r
        · rw [if_pos z, z]
        · rw [if_neg z, if_pos rfl]
      have πo : ∀ i, i ≠ r → i ≠ q → π i = i := fun i z1 z2 => by rw [hπ, if_neg z1, if_neg z2]
      have πlt : ∀ i N, i < N → r < N → q < N → π i < N := fun i N z1 z2 z3 => by
        rw [hπ]
        split
        · exact z3
        · split
          · exact z2
          · exact z1
      have πi : ∀ i j, π i = π j → i = j := fun i j e => by
        by_cases z1 : i = r
        · by_cases z2 : j = r
          · omega
          · by_cases z3 : j = q
            · subst z1; subst z3; rw [πr, πq] at e; omega
            · subst z1; rw [πr, πo j z2 z3] at e; omega
        · by_cases z4 : i = q
          · by_cases z2 : j = r
            · subst z4; subst z2; rw [πr, πq] at e; omega
            · by_cases z3 : j = q
              · omega
              · subst z4; rw [πq, πo j z2 z3] at e; omega
          · rw [πo i z1 z4] at e
            by_cases z2 : j = r
            · subst z2; rw [πr] at e; omega
            · by_cases z3 : j = q
              · subst z3; rw [πq] at e; omega
              · rw [πo j z2 z3] at e; exact e
      have R16 : RW h16 (fun i => g1 (π i)) (fun i => V1 (π i)) n s m := by
        refine ⟨fun i hi => ⟨?_, (R1.1 _ (πlt i 40 hi (by omega) (by omega))).2⟩, fun i j hi hj e => πi i j (R1.2.1 _ _ (πlt i 40 hi (by omega) (by omega)) (πlt j 40 hj (by omega) (by omega)) e), fun i x hi hx => by rw [i16]; exact R1.2.2 _ x (πlt i n hi (by omega) hq2) hx⟩
        show ah_q h16 84 i = some (85 + g1 (π i))
        rw [q16]
        by_cases z1 : i = r
        · rw [z1, u1_s, πr]
        · rw [u1_n _ _ z1]
          by_cases z2 : i = q
          · rw [z2, u1_s, πq]
          · rw [u1_n _ _ z2, πo i z1 z2]
            exact (R1.1 i hi).1
      refine c_clearBelow (r := r) K16 im R16 h40 hs f16 hc (by omega) (show V1 (π r) c ≠ 0 by rw [πr]; exact vq) (fun h18 V3 F18 R18 ⟨cb1, cb2⟩ => ⟨rfl, fun x19 e19 x20 e20 => ?_⟩)
      have e19' : x19 = nI (r + 1) := by rw [e19]; exact nI_add _ 1
      have e20' : x20 = nI (c + 1) := by rw [e20]; exact nI_add _ 1
      rw [e19', e20']
      have mm := md_dvd m
      have E3 := EI_piv (M' := fun i c => (V3 i c : Int)) pm E1 hc hq1 hq2 (fun z => vq (by
        have v := (R1.2.2 q c hq2 hc).1
        have z' := Int.ofNat_dvd.mp z
        exact Nat.eq_zero_of_dvd_of_lt z' v)) (fun x hx => by omega) (fun t ht x hx => ?_) (fun x hx => ?_) (fun i hi hin => ?_) (fun i hi hin => ?_)
      · refine nx (h18, r + 1) ⟨fP_trans F1 (fP_trans F16 (fP_fr F18)), _, V3, R18, EI_mono E3 (fun x hx => ?_)⟩
        by_cases z : x = c
        · exact Or.inr z
        · exact Or.inl (by omega)
      · show (m : Int) ∣ (V3 t x : Int) - (V1 t x : Int)
        have ht' : t < r := ht
        have e3 : V3 t x = V1 (π t) x := cb1 t (by omega) x hx
        rw [e3, πo t (by omega) (by omega)]
        exact dv_refl _
      · show (m : Int) ∣ (V3 r x : Int) - (V1 q x : Int)
        have e3 : V3 r x = V1 (π r) x := cb1 r (Nat.le_refl _) x hx
        rw [e3, πr]
        exact dv_refl _
      · have hi' : r < i := hi
        obtain ⟨k', c1, c2, c3⟩ := cb2 i hi hin
        refine ⟨1, (k' : Int), fun z => ?_, fun x hx => ?_⟩
        · have := Int.ofNat_dvd.mp (show (m : Int) ∣ ((1 : Nat) : Int) from z)
          have := Nat.le_of_dvd (by omega) this
          have := im.1
          omega
        · show (m : Int) ∣ (V3 i x : Int) - (1 * (if i = q then (V1 r x : Int) else (V1 i x : Int)) + (k' : Int) * (V1 q x : Int))
          have ev : (if i = q then (V1 r x : Int) else (V1 i x : Int)) = (V1 (π i) x : Int) := by
            by_cases z : i = q
            · rw [if_pos z, z, πq]
            · rw [if_neg z, πo i (by omega) z]
          rw [ev, Int.one_mul]
          by_cases z : c ≤ x
          · have e3 : V3 i x = (V1 (π i) x + k' * V1 (π r) x) % m := c1 x hx z
            rw [e3, πr]
            have := mm (V1 (π i) x + k' * V1 q x)
            rw [Int.natCast_add (V1 (π i) x), Int.natCast_mul] at this
            exact this
          · have e3 : V3 i x = V1 (π i) x := c2 x (by omega)
            rw [e3]
            have zq : (m : Int) ∣ (V1 q x : Int) := E1.2.2.2 q hq1 hq2 x (show x < c by omega)
            have kq : (m : Int) ∣ (k' : Int) * (V1 q x : Int) := Int.dvd_mul_of_dvd_right zq
            rw [show ∀ a b : Int, a - (a + b) = -b from fun a b => by omega]
            exact Int.dvd_neg.mpr kq
      · obtain ⟨k', c1, c2, c3⟩ := cb2 i hi hin
        show (m : Int) ∣ (V3 i c : Int)
        rw [c3]
        exact Int.dvd_zero _
    · have e7' : x7 = nI (c + 1) := by rw [e7]; exact nI_add _ 1
      rw [e7']
      refine nx (h1, r) ⟨F1, g1, V1, R1, EI_mono (EI_skip E1 (c := c) (fun i a b => ?_)) (fun x hx => ?_)⟩
      · show (m : Int) ∣ (V1 i c : Int)
        rw [z0 i a b]
        exact Int.dvd_zero _
      · by_cases z : x = c
        · exact Or.inr z
        · exact Or.inl (by omega)
  · rintro ⟨h1, r⟩ ⟨F1, g1, V1, R1, E1⟩
    have K1 := fP_sp K F1
    have rn := E1.2.2.1
    have f1 : ah_f h1 82 2 = nI s := by rw [(F1.2.2.2.1 82 (rwc_no (by omega))).1]; exact hst
    refine X1_rank_5 ⟨o82 K1, fun _ => k h1 g1 V1 r F1 R1 (EI_end E1 (Or.inl (fun c hc => hc))) rn, fun w => absurd (by rw [f1]; exact (nI_leI (by omega) (by omega)).mpr (Nat.le_refl _)) w⟩
end RANK
