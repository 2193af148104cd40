/-! Colours: clearing rows, the reference. -/
def SV (h : AH) (V : Nat → Nat → Nat) (n : Nat) : Prop := ∀ i x, i < n → x < 100 → V i x < 100 ∧ ah_i h 184 (100 * i + x) = nI (V i x)
/-- rows r and q changed about -/
def sW (V : Nat → Nat → Nat) (r q i x : Nat) : Nat := if i = q then V r x else V i x
def ML (V V' : Nat → Nat → Nat) (n md r q c : Nat) : Prop := (∀ i, i < r → ∀ x, x < 100 → V' i x = V i x) ∧ (∀ x, x < 100 → V' r x = V q x % md) ∧ ∀ i, r < i → i < n → (sW V r q i c % md = 0 ∧ ∀ x, x < 100 → V' i x = sW V r q i x) ∨ (sW V r q i c % md ≠ 0 ∧ ∀ x, x < 100 → V' i x = (sW V r q i x % md * (V q c % md) + (md - sW V r q i c % md) * (V q x % md)) % md)
section MCLEAR
variable {h : AH} {d bc bs n md : Nat} {Q : Option Value → AH → Prop} {V : Nat → Nat → Nat}
theorem m_clears {r q c : Nat} (K : sp h) (hmd : 2 ≤ md ∧ md ≤ 11) (S : SV h V n) (h40 : n ≤ 40) (hrq : r ≤ q) (hq : q < n) (hc : c < 100)
    (k : ∀ h' V', fr [184] h h' → SV h' V' n → ML V V' n md r q c → Q none h') : ex_S yX12_clears mX12_clears d [.ref 184, .int (nI n), .int (nI r), .int (nI q), .int (nI c), .int (nI md)] h bc bs Q := by
  have m0 : ¬ nI md = 0 := fun z => by
    have := (nI_eq (b := 0) (by omega) (by omega)).mp z
    omega
  have ad : ∀ i x : Nat, (100 : Int32) * nI i + nI x = nI (100 * i + x) := fun i x => by
    have : (100 : Int32) * nI i = nI (100 * i) := pk_mul 100 i
    rw [this, nI_add]
  refine X12_clears_e (X12_clears_0 ?_)
  refine lp 100 (fun a h' => fr [184] h h' ∧ SV h' (fun i x => if x < a then (if i = r then V q x % md else sW V r q i x) else V i x) n) (fun a h' => ex_G mX12_clears d 3 [.ref 184, .int (nI n), .int (nI r), .int (nI q), .int (nI c), .int (nI md), .int (nI a), .retAddr 0, .retAddr 0, .retAddr 0] [] h' bc bs Q) ⟨fr_refl _ h, fun i x hi hx => S i x hi hx⟩ ?_ ?_
  · rintro a h1 ha ⟨F1, S1⟩ nx
    have K1 := sp_fr K F1
    have c100 : (100 : Int32) ≤ nI a ↔ 100 ≤ a := nI_leI (a := 100) (by omega) (by omega)
    have vq : ah_i h1 184 (100 * q + a) = nI (V q a) ∧ V q a < 100 := by
      obtain ⟨x1, x2⟩ := S1 q a hq ha
      have e : (fun i x => if x < a then (if i = r then V q x % md else sW V r q i x) else V i x) q a = V q a := if_neg (by omega)
      exact ⟨x2.trans (by rw [e]), (S q a hq ha).1⟩
    have vr : ah_i h1 184 (100 * r + a) = nI (V r a) := by
      obtain ⟨x1, x2⟩ := S1 r a (by omega) ha
      have e : (fun i x => if x < a then (if i = r then V q x % md else sW V r q i x) else V i x) r a = V r a := if_neg (by omega)
      exact x2.trans (by rw [e])
    refine X12_clears_3 ⟨fun w => by have := c100.mp w; omega, fun _ => ?_⟩
    rw [ad, ad, nI_clamp (by omega), nI_clamp (by omega)]
    refine ⟨(s184 K1 _).mpr ((ix_nI (by omega)).mpr (by omega)), fun x6 e6 => ⟨(s184 K1 _).mpr ((ix_nI (by omega)).mpr (by omega)), (t184 K1 _).mpr ((ix_nI (by omega)).mpr (by omega)), fun h8 e8 => ⟨m0, ?_⟩⟩⟩
    rw [vq.1] at e6
    rw [vr] at e8
    subst e6
    have F8 : fr [184] h h8 := by rw [e8]; exact fr_si F1 (by decide)
    refine ⟨(t184 (sp_fr K F8) _).mpr ((ix_nI (by omega)).mpr (by omega)), fun h11 e11 x13 e13 => ?_⟩
    have e13' : x13 = nI (a + 1) := by rw [e13]; exact nI_add _ 1
    rw [e13']
    have im : im_ (nI (V q a)) (nI md) = nI (V q a % md) := im_nI (by omega) (by omega) (by omega)
    rw [im] at e11
    have F11 : fr [184] h h11 := by rw [e11]; exact fr_si F8 (by decide)
    have i11 : ah_i h11 184 = u1 (u1 (ah_i h1 184) (100 * q + a) (nI (V r a))) (100 * r + a) (nI (V q a % md)) := by rw [e11, i_si_s, e8, i_si_s]
    refine nx h11 ⟨F11, fun i x hi hx => ?_⟩
    show (if x < a + 1 then (if i = r then V q x % md else sW V r q i x) else V i x) < 100 ∧ ah_i h11 184 (100 * i + x) = nI (if x < a + 1 then (if i = r then V q x % md else sW V r q i x) else V i x)
    rw [i11]
    by_cases z : x = a
    · subst z
      rw [if_pos (by omega)]
      by_cases z1 : i = r
      · subst z1
        rw [if_pos rfl, u1_s]
        exact ⟨Nat.lt_of_le_of_lt (Nat.mod_le _ _) vq.2, rfl⟩
      · rw [if_neg z1, u1_n _ _ (by omega)]
        by_cases z2 : i = q
        · subst z2
          rw [u1_s]
          unfold sW
          rw [if_pos rfl]
          exact ⟨(S r x (by omega) hx).1, rfl⟩
        · rw [u1_n _ _ (by omega)]
          unfold sW
          rw [if_neg z2]
          obtain ⟨x1, x2⟩ := S1 i x hi hx
          have e : (fun i y => if y < x then (if i = r then V q y % md else sW V r q i y) else V i y) i x = V i x := if_neg (by omega)
          exact ⟨(S i x hi hx).1, x2.trans (by rw [e])⟩
    · rw [u1_n _ _ (by omega), u1_n _ _ (by omega)]
      obtain ⟨x1, x2⟩ := S1 i x hi hx
      have e : (if x < a + 1 then (if i = r then V q x % md else sW V r q i x) else V i x) = (fun i x => if x < a then (if i = r then V q x % md else sW V r q i x) else V i x) i x := by
        show _ = (if x < a then (if i = r then V q x % md else sW V r q i x) else V i x)
        by_cases z3 : x < a
        · rw [if_pos z3, if_pos (by omega)]
        · rw [if_neg z3, if_neg (by omega)]
      rw [e]
      exact ⟨x1, x2⟩
  · sorry
end MCLEAR
