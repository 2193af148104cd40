/-! Colours: clearing rows, the reference. -/
def SV (h : AH) (V : Nat → Nat → Nat) (n : Nat) : Prop := ∀ i x, i < n → x < 100 → V i x < 100 ∧ ah_i h 184 (100 * i + x) = nI (V i x)
/-- rows r and q changed about -/
def sW (V : Nat → Nat → Nat) (r q i x : Nat) : Nat := if i = q then V r x else V i x
def ML (V V' : Nat → Nat → Nat) (n md r q c : Nat) : Prop := (∀ i, i < r → ∀ x, x < 100 → V' i x = V i x) ∧ (∀ x, x < 100 → V' r x = V q x % md) ∧ ∀ i, r < i → i < n → (sW V r q i c % md = 0 ∧ ∀ x, x < 100 → V' i x = sW V r q i x) ∨ (sW V r q i c % md ≠ 0 ∧ ∀ x, x < 100 → V' i x = (sW V r q i x % md * (V q c % md) + (md - sW V r q i c % md) * (V q x % md)) % md)
section MCLEAR
variable {h : AH} {d bc bs n md : Nat} {Q : Option Value → AH → Prop} {V : Nat → Nat → Nat}
theorem m_clears {r q c : Nat} (K : sp h) (hmd : 2 ≤ md ∧ md ≤ 11) (S : SV h V n) (h40 : n ≤ 40) (hrq : r ≤ q) (hq : q < n) (hc : c < 100)
    (k : ∀ h' V', fr [184] h h' → SV h' V' n → ML V V' n md r q c → Q none h') : ex_S yX12_clears mX12_clears d [.ref 184, .int (nI n), .int (nI r), .int (nI q), .int (nI c), .int (nI md)] h bc bs Q := by
  have m0 : ¬ nI md = 0 := fun z => by
    have := (nI_eq (b := 0) (by omega) (by omega)).mp z
    omega
  have ad : ∀ i x : Nat, (100 : Int32) * nI i + nI x = nI (100 * i + x) := fun i x => by
    have : (100 : Int32) * nI i = nI (100 * i) := pk_mul 100 i
    rw [this, nI_add]
  refine X12_clears_e (X12_clears_0 ?_)
  refine lp 100 (fun a h' => fr [184] h h' ∧ SV h' (fun i x => if x < a then (if i = r then V q x % md else sW V r q i x) else V i x) n) (fun a h' => ex_G mX12_clears d 3 [.ref 184, .int (nI n), .int (nI r), .int (nI q), .int (nI c), .int (nI md), .int (nI a), .retAddr 0, .retAddr 0, .retAddr 0] [] h' bc bs Q) ⟨fr_refl _ h, fun i x hi hx => S i x hi hx⟩ ?_ ?_
  · rintro a h1 ha ⟨F1, S1⟩ nx
    have K1 := sp_fr K F1
    have c100 : (100 : Int32) ≤ nI a ↔ 100 ≤ a := nI_leI (a := 100) (by omega) (by omega)
    have vq : ah_i h1 184 (100 * q + a) = nI (V q a) ∧ V q a < 100 := by
      obtain ⟨x1, x2⟩ := S1 q a hq ha
      have e : (fun i x => if x < a then (if i = r then V q x % md else sW V r q i x) else V i x) q a = V q a := if_neg (by omega)
      exact ⟨x2.trans (by rw [e]), (S q a hq ha).1⟩
    have vr : ah_i h1 184 (100 * r + a) = nI (V r a) := by
      obtain ⟨x1, x2⟩ := S1 r a (by omega) ha
      have e : (fun i x => if x < a then (if i = r then V q x % md else sW V r q i x) else V i x) r a = V r a := if_neg (by omega)
      exact x2.trans (by rw [e])
    refine X12_clears_3 ⟨fun w => by have := c100.mp w; omega, fun _ => ?_⟩
    rw [ad, ad, nI_clamp (by omega), nI_clamp (by omega)]
    refine ⟨(s184 K1 _).mpr ((ix_nI (by omega)).mpr (by omega)), fun x6 e6 => ⟨(s184 K1 _).mpr ((ix_nI (by omega)).mpr (by omega)), (t184 K1 _).mpr ((ix_nI (by omega)).mpr (by omega)), fun h8 e8 => ⟨m0, ?_⟩⟩⟩
    rw [vq.1] at e6
    rw [vr] at e8
    subst e6
    have F8 : fr [184] h h8 := by rw [e8]; exact fr_si F1 (by decide)
    refine ⟨(t184 (sp_fr K F8) _).mpr ((ix_nI (by omega)).mpr (by omega)), fun h11 e11 x13 e13 => ?_⟩
    have e13' : x13 = nI (a + 1) := by rw [e13]; exact nI_add _ 1
    rw [e13']
    have im : im_ (nI (V q a)) (nI md) = nI (V q a % md) := im_nI (by omega) (by omega) (by omega)
    rw [im] at e11
    have F11 : fr [184] h h11 := by rw [e11]; exact fr_si F8 (by decide)
    have i11 : ah_i h11 184 = u1 (u1 (ah_i h1 184) (100 * q + a) (nI (V r a))) (100 * r + a) (nI (V q a % md)) := by rw [e11, i_si_s, e8, i_si_s]
    refine nx h11 ⟨F11, fun i x hi hx => ?_⟩
    show (if x < a + 1 then (if i = r then V q x % md else sW V r q i x) else V i x) < 100 ∧ ah_i h11 184 (100 * i + x) = nI (if x < a + 1 then (if i = r then V q x % md else sW V r q i x) else V i x)
    rw [i11]
    by_cases z : x = a
    · subst z
      rw [if_pos (by omega)]
      by_cases z1 : i = r
      · subst z1
        rw [if_pos rfl, u1_s]
        exact ⟨Nat.lt_of_le_of_lt (Nat.mod_le _ _) vq.2, rfl⟩
      · rw [if_neg z1, u1_n _ _ (by omega)]
        by_cases z2 : i = q
        · subst z2
          rw [u1_s]
          unfold sW
          rw [if_pos rfl]
          exact ⟨(S r x (by omega) hx).1, rfl⟩
        · rw [u1_n _ _ (by omega)]
          unfold sW
          rw [if_neg z2]
          obtain ⟨x1, x2⟩ := S1 i x hi hx
          have e : (fun i y => if y < x then (if i = r then V q y % md else sW V r q i y) else V i y) i x = V i x := if_neg (by omega)
          exact ⟨(S i x hi hx).1, x2.trans (by rw [e])⟩
    · rw [u1_n _ _ (by omega), u1_n _ _ (by omega)]
      obtain ⟨x1, x2⟩ := S1 i x hi hx
      have e : (if x < a + 1 then (if i = r then V q x % md else sW V r q i x) else V i x) = (fun i x => if x < a then (if i = r then V q x % md else sW V r q i x) else V i x) i x := by
        show _ = (if x < a then (if i = r then V q x % md else sW V r q i x) else V i x)
        by_cases z3 : x < a
        · rw [if_pos z3, if_pos (by omega)]
        · rw [if_neg z3, if_neg (by omega)]
      rw [e]
      exact ⟨x1, x2⟩
  · rintro h1 ⟨F1, S1⟩
    have K1 := sp_fr K F1
    obtain ⟨V2, hV2⟩ : ∃ V2 : Nat → Nat → Nat, ∀ i x, V2 i x = if i = r then V q x % md else sW V r q i x := ⟨fun i x => if i = r then V q x % md else sW V r q i x, fun _ _ => rfl⟩
    have S2 : SV h1 V2 n := fun i x hi hx => by
      have := S1 i x hi hx
      have e : (fun i x => if x < 100 then (if i = r then V q x % md else sW V r q i x) else V i x) i x = V2 i x := by
        rw [hV2]
        exact if_pos hx
      rw [e] at this
      exact this
    have r2 : ∀ x, V2 r x = V q x % md := fun x => by rw [hV2, if_pos rfl]
    have o2 : ∀ i x, i ≠ r → V2 i x = sW V r q i x := fun i x z => by rw [hV2, if_neg z]
    have hlt : ∀ a, a % md < 11 := fun a => Nat.lt_of_lt_of_le (Nat.mod_lt a (by omega)) hmd.2
    refine X12_clears_3 ⟨fun _ => ?_, fun w => absurd (show (100 : Int32) ≤ nI 100 by decide) w⟩
    rw [ad, nI_clamp (by omega), (S2 r c (by omega) hc).2, r2]
    refine ⟨(s184 K1 _).mpr ((ix_nI (by omega)).mpr (by omega)), fun x3 e3 x4 e4 => ?_⟩
    have e4' : x4 = nI (r + 1) := by rw [e4]; exact nI_add _ 1
    rw [e4', e3]
    refine lpf (r + 1) n (fun i h' => fr [184] h h' ∧ ∃ V3, SV h' V3 n ∧ (∀ i', i' ≤ r ∨ i ≤ i' → ∀ x, x < 100 → V3 i' x = V2 i' x) ∧ ∀ i', r < i' → i' < i → (sW V r q i' c % md = 0 ∧ ∀ x, x < 100 → V3 i' x = sW V r q i' x) ∨ (sW V r q i' c % md ≠ 0 ∧ ∀ x, x < 100 → V3 i' x = (sW V r q i' x % md * (V q c % md) + (md - sW V r q i' c % md) * (V q x % md)) % md)) (fun i h' => ex_G mX12_clears d 75 [.ref 184, .int (nI n), .int (nI r), .retAddr 0, .int (nI c), .int (nI md), .int (nI (V q c % md)), .int (nI i), .retAddr 0, .retAddr 0] [] h' bc bs Q) (by omega) ⟨F1, V2, S2, fun _ _ _ _ => rfl, fun i' a b => by omega⟩ ?_ ?_
    · rintro i h3 hi1 hi2 ⟨F3, V3, S3, I1, I2⟩ nx
      have K3 := sp_fr K F3
      have ei : ∀ x, x < 100 → V3 i x = sW V r q i x := fun x hx => by rw [I1 i (Or.inr (Nat.le_refl _)) x hx, o2 i x (by omega)]
      have er : ∀ x, x < 100 → V3 r x = V q x % md := fun x hx => by rw [I1 r (Or.inl (Nat.le_refl _)) x hx, r2]
      refine X12_clears_75 ⟨fun w => ?_, fun _ => ?_⟩
      · rw [nI_leI (by omega) (by omega)] at w
        omega
      obtain ⟨y1, y2⟩ := S3 i c hi2 hc
      rw [ei c hc] at y1 y2
      rw [ad, nI_clamp (by omega), y2]
      refine ⟨(s184 K3 _).mpr ((ix_nI (by omega)).mpr (by omega)), m0, fun x4 e4 => ?_⟩
      have e4'' : x4 = nI (sW V r q i c % md) := by rw [e4]; exact im_nI (by omega) (by omega) (by omega)
      clear e4
      subst e4''
      have bl := hlt (sW V r q i c)
      have b0 : nI (sW V r q i c % md) = 0 ↔ sW V r q i c % md = 0 := nI_eq (b := 0) (by omega) (by omega)
      have e1 : nI i + 1 = nI (i + 1) := nI_add _ 1
      by_cases zb : sW V r q i c % md = 0
      · refine X12_clears_99 ⟨fun w => absurd w (by decide), fun _ => ⟨fun _ x4 e4 => ?_, fun w => absurd (b0.mpr zb) w⟩⟩
        rw [e4, e1]
        refine nx h3 ⟨F3, V3, S3, fun i' hi' x hx => I1 i' (by omega) x hx, fun i' a b => ?_⟩
        by_cases z : i' = i
        · subst z
          exact Or.inl ⟨zb, ei⟩
        · exact I2 i' a (by omega)
      · refine lp 100 (fun a h' => fr [184] h h' ∧ SV h' (fun i' x => if i' = i ∧ x < a then (sW V r q i x % md * (V q c % md) + (md - sW V r q i c % md) * (V q x % md)) % md else V3 i' x) n) (fun a h' => ex_G mX12_clears d 99 [.ref 184, .int (nI n), .int (nI r), .retAddr 0, .int (nI c), .int (nI md), .int (nI (V q c % md)), .int (nI i), .int (nI (sW V r q i c % md)), .int (nI a)] [] h' bc bs Q) ⟨F3, fun i' x hi' hx => by
          have := S3 i' x hi' hx
          have e : (fun i' x => if i' = i ∧ x < 0 then (sW V r q i x % md * (V q c % md) + (md - sW V r q i c % md) * (V q x % md)) % md else V3 i' x) i' x = V3 i' x := if_neg (fun w => absurd w.2 (Nat.not_lt_zero x))
          rw [e]
          exact this⟩ ?_ ?_
        · rintro a h4 ha ⟨F4, S4⟩ nx2
          have K4 := sp_fr K F4
          have c100 : (100 : Int32) ≤ nI a ↔ 100 ≤ a := nI_leI (a := 100) (by omega) (by omega)
          have vi : ah_i h4 184 (100 * i + a) = nI (sW V r q i a) ∧ sW V r q i a < 100 := by
            obtain ⟨x1, x2⟩ := S4 i a hi2 ha
            have e : (fun i' x => if i' = i ∧ x < a then (sW V r q i x % md * (V q c % md) + (md - sW V r q i c % md) * (V q x % md)) % md else V3 i' x) i a = sW V r q i a := (if_neg (fun w => by omega)).trans (ei a ha)
            exact ⟨x2.trans (by rw [e]), by rw [e] at x1; exact x1⟩
          have vr : ah_i h4 184 (100 * r + a) = nI (V q a % md) := by
            obtain ⟨x1, x2⟩ := S4 r a (by omega) ha
            have e : (fun i' x => if i' = i ∧ x < a then (sW V r q i x % md * (V q c % md) + (md - sW V r q i c % md) * (V q x % md)) % md else V3 i' x) r a = V q a % md := (if_neg (fun w => by omega)).trans (er a ha)
            exact x2.trans (by rw [e])
          refine X12_clears_99 ⟨fun w => by have := c100.mp w; omega, fun _ => ⟨fun w => absurd (b0.mp w) zb, fun _ => ?_⟩⟩
          rw [ad, ad, nI_clamp (by omega), nI_clamp (by omega), vi.1, vr]
          have p1 : sW V r q i a % md * (V q c % md) < 121 := Nat.mul_lt_mul'' (hlt _) (hlt _)
          have p2 : (md - sW V r q i c % md) * (V q a % md) ≤ 11 * 11 := Nat.mul_le_mul (by omega) (Nat.le_of_lt (hlt _))
          have f1 : im_ (nI (sW V r q i a)) (nI md) = nI (sW V r q i a % md) := im_nI (by omega) (by omega) (by omega)
          have f2 : nI md - nI (sW V r q i c % md) = nI (md - sW V r q i c % md) := pk_sub (by have := Nat.mod_lt (sW V r q i c) (show 0 < md by omega); omega)
          have f3 : im_ (nI (sW V r q i a % md * (V q c % md) + (md - sW V r q i c % md) * (V q a % md))) (nI md) = nI ((sW V r q i a % md * (V q c % md) + (md - sW V r q i c % md) * (V q a % md)) % md) := im_nI (by omega) (by omega) (by omega)
          rw [f1, f2, pk_mul, pk_mul, nI_add, f3]
          refine ⟨(s184 K4 _).mpr ((ix_nI (by omega)).mpr (by omega)), m0, (s184 K4 _).mpr ((ix_nI (by omega)).mpr (by omega)), (t184 K4 _).mpr ((ix_nI (by omega)).mpr (by omega)), fun h8 e8 x10 e10 => ?_⟩
          have e10' : x10 = nI (a + 1) := by rw [e10]; exact nI_add _ 1
          rw [e10']
          have F8 : fr [184] h h8 := by rw [e8]; exact fr_si F4 (by decide)
          refine nx2 h8 ⟨F8, fun i' x hi' hx => ?_⟩
          show (if i' = i ∧ x < a + 1 then (sW V r q i x % md * (V q c % md) + (md - sW V r q i c % md) * (V q x % md)) % md else V3 i' x) < 100 ∧ ah_i h8 184 (100 * i' + x) = nI (if i' = i ∧ x < a + 1 then (sW V r q i x % md * (V q c % md) + (md - sW V r q i c % md) * (V q x % md)) % md else V3 i' x)
          rw [e8, i_si_s]
          by_cases z : i' = i ∧ x = a
          · obtain ⟨z1, z2⟩ := z
            subst z1
            subst z2
            rw [if_pos ⟨rfl, by omega⟩, u1_s]
            exact ⟨Nat.lt_trans (hlt _) (by decide), rfl⟩
          · rw [u1_n _ _ (by omega)]
            obtain ⟨x1, x2⟩ := S4 i' x hi' hx
            have e : (if i' = i ∧ x < a + 1 then (sW V r q i x % md * (V q c % md) + (md - sW V r q i c % md) * (V q x % md)) % md else V3 i' x) = (fun i' x => if i' = i ∧ x < a then (sW V r q i x % md * (V q c % md) + (md - sW V r q i c % md) * (V q x % md)) % md else V3 i' x) i' x := by
              show _ = (if i' = i ∧ x < a then (sW V r q i x % md * (V q c % md) + (md - sW V r q i c % md) * (V q x % md)) % md else V3 i' x)
              by_cases z3 : i' = i ∧ x < a
              · rw [if_pos z3, if_pos ⟨z3.1, by omega⟩]
              · rw [if_neg z3, if_neg (fun w => z3 ⟨w.1, by omega⟩)]
            rw [e]
            exact ⟨x1, x2⟩
        · rintro h4 ⟨F4, S4⟩
          refine X12_clears_99 ⟨fun _ x2 e2 => ?_, fun w => absurd (show (100 : Int32) ≤ nI 100 by decide) w⟩
          rw [e2, e1]
          refine nx h4 ⟨F4, _, S4, fun i' hi' x hx => ?_, fun i' a b => ?_⟩
          · exact (if_neg (fun w => by omega)).trans (I1 i' (by omega) x hx)
          · by_cases z : i' = i
            · subst z
              exact Or.inr ⟨zb, fun x hx => if_pos ⟨rfl, hx⟩⟩
            · rcases I2 i' a (by omega) with ⟨w1, w2⟩ | ⟨w1, w2⟩
              · exact Or.inl ⟨w1, fun x hx => (if_neg (fun w => z w.1)).trans (w2 x hx)⟩
              · exact Or.inr ⟨w1, fun x hx => (if_neg (fun w => z w.1)).trans (w2 x hx)⟩
    · rintro h3 ⟨F3, V3, S3, I1, I2⟩
      refine X12_clears_75 ⟨fun _ => k h3 V3 F3 S3 ⟨fun i hi x hx => ?_, fun x hx => by rw [I1 r (Or.inl (Nat.le_refl _)) x hx, r2], I2⟩, fun w => absurd ((nI_leI (by omega) (by omega)).mpr (Nat.le_refl _)) w⟩
      rw [I1 i (Or.inl (by omega)) x hx, o2 i x (by omega)]
      unfold sW
      rw [if_neg (by omega)]
end MCLEAR
