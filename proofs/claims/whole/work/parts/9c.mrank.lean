/-! Colours: the columns, the reference. -/
section MRANK
variable {h : AH} {d bc bs n md : Nat} {Q : Option Value → AH → Prop} {V : Nat → Nat → Nat}
/-- the row for a column -/
theorem m_seek {p r a : Nat} {sN : Int32} (K : sp h) (hmd : 2 ≤ md ∧ md ≤ 11) (S : SV h V n) (h40 : n ≤ 40) (hr : r ≤ n) (ha : a < 100) (hn : ah_i h 170 p = nI n) (hp : p < 368)
    (k0 : (∀ i, r ≤ i → i < n → V i a % md = 0) → ex_G mX12_coloursOf (d + 1) 369 [.ref 168, .int (nI p), .int (nI md), .int sN, .int (nI r), .int (nI (a + 1)), .retAddr 0, .retAddr 0] [] h bc bs Q)
    (k1 : ∀ q, r ≤ q → q < n → V q a % md ≠ 0 → ex_S yX12_clears mX12_clears d [.ref 184, .int (nI n), .int (nI r), .int (nI q), .int (nI a), .int (nI md)] h 0 0 (fun r8 h8 => r8 = none ∧ ∀ x9, x9 = nI r + 1 → ∀ x10, x10 = nI a + 1 → ex_G mX12_coloursOf (d + 1) 369 [.ref 168, .int (nI p), .int (nI md), .int sN, .int x9, .int x10, .retAddr 0, .retAddr 0] [] h8 bc bs Q)) : ex_G mX12_coloursOf (d + 1) 389 [.ref 168, .int (nI p), .int (nI md), .int sN, .int (nI r), .int (nI a), .int (-1), .int (nI n - 1)] [] h bc bs Q := by
  have m0 : ¬ nI md = 0 := fun z => by
    have := (nI_eq (b := 0) (by omega) (by omega)).mp z
    omega
  have end_ : ∀ w : Int32, ((w = m1 ∧ ∀ i, r ≤ i → i < n → V i a % md = 0) ∨ ∃ q, w = nI q ∧ r ≤ q ∧ q < n ∧ V q a % md ≠ 0) → ex_G mX12_coloursOf (d + 1) 389 [.ref 168, .int (nI p), .int (nI md), .int sN, .int (nI r), .int (nI a), .int w, .int (nI r - 1)] [] h bc bs Q := by
    intro w hw
    have lt : nI r - 1 < nI r := by
      by_cases z : r = 0
      · rw [z]; decide
      · rw [nI_m1 (by omega)]
        exact (nI_ltI (by omega) (by omega)).mpr (by omega)
    refine X12_coloursOf_389 ⟨fun _ => ⟨fun z x3 e3 => ?_, fun z => ?_⟩, fun z => absurd lt z⟩
    · have e3' : x3 = nI (a + 1) := by rw [e3]; exact nI_add _ 1
      rw [e3']
      rcases hw with ⟨-, y⟩ | ⟨q, y, y1, y2, y3⟩
      · exact k0 y
      · rw [y] at z
        exact absurd z (m1_ne (by omega))
    · rcases hw with ⟨y, -⟩ | ⟨q, y, y1, y2, y3⟩
      · exact absurd y z
      · refine ⟨o168 K, 184, r168_19 K, 170, r168_2 K, (s170 K _).mpr ((ix_nI (by omega)).mpr (by omega)), ?_⟩
        rw [nI_clamp (by omega), hn, y]
        exact k1 q y1 y2 y3
  refine lp (σ := Int32) (n - r) (fun j w => (w = m1 ∧ ∀ i, n - j ≤ i → i < n → V i a % md = 0) ∨ ∃ q, w = nI q ∧ n - j ≤ q ∧ q < n ∧ V q a % md ≠ 0) (fun j w => ex_G mX12_coloursOf (d + 1) 389 [.ref 168, .int (nI p), .int (nI md), .int sN, .int (nI r), .int (nI a), .int w, .int (nI (n - j) - 1)] [] h bc bs Q) (s := m1) (Or.inl ⟨rfl, fun i h1 h2 => by omega⟩) ?_ ?_
  · rintro j w hj I nx
    have e1 : nI (n - j) - 1 = nI (n - j - 1) := nI_m1 (by omega)
    have ad : (100 : Int32) * nI (n - j - 1) + nI a = nI (100 * (n - j - 1) + a) := by
      have : (100 : Int32) * nI (n - j - 1) = nI (100 * (n - j - 1)) := pk_mul 100 _
      rw [this, nI_add]
    obtain ⟨v1, v2⟩ := S (n - j - 1) a (by omega) ha
    have im : im_ (nI (V (n - j - 1) a)) (nI md) = nI (V (n - j - 1) a % md) := im_nI (by omega) (by omega) (by omega)
    have ml := Nat.mod_lt (V (n - j - 1) a) (show 0 < md by omega)
    have b0 : nI (V (n - j - 1) a % md) = 0 ↔ V (n - j - 1) a % md = 0 := nI_eq (b := 0) (by omega) (by omega)
    rw [e1]
    refine X12_coloursOf_389 ⟨fun z => ?_, fun _ => ⟨o168 K, 184, r168_19 K, ?_⟩⟩
    · rw [nI_ltI (by omega) (by omega)] at z
      omega
    rw [ad, nI_clamp (by omega), v2, im, b0]
    have st : nI (n - (j + 1)) - 1 = nI (n - j - 1) + (-1) := by
      rw [show n - (j + 1) = n - j - 1 by omega]
      exact Int32.sub_eq_add_neg _ _
    refine ⟨(s184 K _).mpr ((ix_nI (by omega)).mpr (by omega)), m0, fun z x16 e16 => ?_, fun z x17 e17 => ?_⟩
    · rw [e16, ← st]
      refine nx w ?_
      rcases I with ⟨y, y1⟩ | ⟨q, y, y1, y2, y3⟩
      · refine Or.inl ⟨y, fun i h1 h2 => ?_⟩
        by_cases u : i = n - j - 1
        · rw [u]; exact z
        · exact y1 i (by omega) h2
      · exact Or.inr ⟨q, y, by omega, y2, y3⟩
    · rw [e17, ← st]
      exact nx _ (Or.inr ⟨n - j - 1, rfl, by omega, by omega, z⟩)
  · rintro w I
    rw [show n - (n - r) = r by omega] at I ⊢
    exact end_ w I
end MRANK
