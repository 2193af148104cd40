/-! Colours: all columns, the reference. -/
section MCOLS
variable {h : AH} {d bc bs n md : Nat} {Q : Option Value → AH → Prop} {V : Nat → Nat → Nat}
theorem m_cols {p l : Nat} {sN : Int32} (K : sp h) (hmd : 2 ≤ md ∧ md ≤ 11) (pm : prm md) (S : SV h V n) (h40 : n ≤ 40) (hp : p < 368) (hn : ah_i h 170 p = nI n) (hl : ah_i h 171 p = nI l)
    (k : ∀ h' r, fr [184] h h' → EL md (fun i c => (V i c : Int)) n 100 r → r ≤ n → Q (some (.int (sN + nI l - nI r))) h') : ex_G mX12_coloursOf (d + 1) 369 [.ref 168, .int (nI p), .int (nI md), .int sN, .int (nI 0), .int (nI 0), .retAddr 0, .retAddr 0] [] h bc bs Q := by
  refine lp (σ := AH × Nat) 100 (fun c z => fr [184] h z.1 ∧ ∃ V', SV z.1 V' n ∧ EI md (fun i c => (V i c : Int)) (fun i c => (V' i c : Int)) n 100 z.2 (fun x => x < c)) (fun c z => ex_G mX12_coloursOf (d + 1) 369 [.ref 168, .int (nI p), .int (nI md), .int sN, .int (nI z.2), .int (nI c), .retAddr 0, .retAddr 0] [] z.1 bc bs Q) (s := (h, 0)) ⟨fr_refl _ h, V, S, EI_mono (EI_0 _ n 100) (fun x hx => absurd hx (Nat.not_lt_zero x))⟩ ?_ ?_
  · rintro c ⟨h1, r⟩ hc ⟨F1, V1, S1, E1⟩ nx
    have K1 := sp_fr K F1
    have rn : r ≤ n := E1.2.2.1
    have c100 : (100 : Int32) ≤ nI c ↔ 100 ≤ c := nI_leI (a := 100) (by omega) (by omega)
    have n1 : ah_i h1 170 p = nI n := by rw [fr_i F1 170 (by decide)]; exact hn
    refine X12_coloursOf_369 ⟨fun w => by have := c100.mp w; omega, fun _ => ⟨o168 K1, 170, r168_2 K1, (s170 K1 _).mpr ((ix_nI (by omega)).mpr (by omega)), fun x8 e8 => ?_⟩⟩
    rw [nI_clamp (by omega), n1] at e8
    rw [e8]
    refine m_seek K1 hmd S1 h40 rn hc n1 hp (fun z0 => ?_) (fun q hq1 hq2 vq => ?_)
    · refine nx (h1, r) ⟨F1, V1, S1, EI_mono (EI_skip E1 (c := c) (fun i a b => Int.ofNat_dvd.mpr (Nat.dvd_of_mod_eq_zero (z0 i a b)))) (fun x hx => ?_)⟩
      by_cases z : x = c
      · exact Or.inr z
      · exact Or.inl (by omega)
    · refine m_clears K1 hmd S1 h40 hq1 hq2 hc (fun h8 V3 F8 S8 ⟨l1, l2, l3⟩ => ⟨rfl, fun x9 e9 x10 e10 => ?_⟩)
      have e9' : x9 = nI (r + 1) := by rw [e9]; exact nI_add _ 1
      have e10' : x10 = nI (c + 1) := by rw [e10]; exact nI_add _ 1
      rw [e9', e10']
      have mm := md_dvd md
      have nh : ¬ (md : Int) ∣ ((V1 q c % md : Nat) : Int) := fun z => vq (Nat.eq_zero_of_dvd_of_lt (Int.ofNat_dvd.mp z) (Nat.mod_lt _ (by omega)))
      have E3 := EI_piv (M' := fun i c => (V3 i c : Int)) pm E1 hc hq1 hq2 (fun z => vq (Nat.mod_eq_zero_of_dvd (Int.ofNat_dvd.mp z))) (fun x hx => by omega) (fun t ht x hx => ?_) (fun x hx => ?_) (fun i hi hin => ?_) (fun i hi hin => ?_)
      · refine nx (h8, r + 1) ⟨fr_trans F1 F8, V3, S8, EI_mono E3 (fun x hx => ?_)⟩
        by_cases z : x = c
        · exact Or.inr z
        · exact Or.inl (by omega)
      · show (md : Int) ∣ (V3 t x : Int) - (V1 t x : Int)
        rw [l1 t ht x hx]
        exact dv_refl _
      · show (md : Int) ∣ (V3 r x : Int) - (V1 q x : Int)
        rw [l2 x hx]
        exact mm _
      · have ev : ∀ x, (if i = q then (V1 r x : Int) else (V1 i x : Int)) = (sW V1 r q i x : Int) := fun x => by
          unfold sW
          split <;> rfl
        rcases l3 i hi hin with ⟨w1, w2⟩ | ⟨w1, w2⟩
        · refine ⟨1, 0, fun z => ?_, fun x hx => ?_⟩
          · have := Nat.le_of_dvd (by omega) (Int.ofNat_dvd.mp (show (md : Int) ∣ ((1 : Nat) : Int) from z))
            omega
          · show (md : Int) ∣ (V3 i x : Int) - (1 * (if i = q then (V1 r x : Int) else (V1 i x : Int)) + 0 * (V1 q x : Int))
            rw [ev, w2 x hx, Int.one_mul, Int.zero_mul, Int.add_zero]
            exact dv_refl _
        · refine ⟨((V1 q c % md : Nat) : Int), ((md - sW V1 r q i c % md : Nat) : Int), nh, fun x hx => ?_⟩
          show (md : Int) ∣ (V3 i x : Int) - (((V1 q c % md : Nat) : Int) * (if i = q then (V1 r x : Int) else (V1 i x : Int)) + ((md - sW V1 r q i c % md : Nat) : Int) * (V1 q x : Int))
          rw [ev, w2 x hx]
          have a1 := mm (sW V1 r q i x % md * (V1 q c % md) + (md - sW V1 r q i c % md) * (V1 q x % md))
          rw [Int.natCast_add (sW V1 r q i x % md * (V1 q c % md)), Int.natCast_mul, Int.natCast_mul] at a1
          have a2 : (md : Int) ∣ ((V1 q c % md : Nat) : Int) * (((sW V1 r q i x % md : Nat) : Int) - (sW V1 r q i x : Int)) := Int.dvd_mul_of_dvd_right (mm _)
          have a3 : (md : Int) ∣ ((md - sW V1 r q i c % md : Nat) : Int) * (((V1 q x % md : Nat) : Int) - (V1 q x : Int)) := Int.dvd_mul_of_dvd_right (mm _)
          rw [Int.mul_sub] at a2 a3
          have s := Int.dvd_add a1 (Int.dvd_add a2 a3)
          rw [Int.mul_comm ((sW V1 r q i x % md : Nat) : Int) ((V1 q c % md : Nat) : Int)] at s
          rw [show ∀ t u v w z : Int, t - (u + v) + (u - w + (v - z)) = t - (w + z) from fun t u v w z => by omega] at s
          exact s
      · show (md : Int) ∣ (V3 i c : Int)
        rcases l3 i hi hin with ⟨w1, w2⟩ | ⟨w1, w2⟩
        · rw [w2 c hc]
          exact Int.ofNat_dvd.mpr (Nat.dvd_of_mod_eq_zero w1)
        · rw [w2 c hc, ← Nat.add_mul, Nat.add_sub_cancel' (Nat.le_of_lt (Nat.mod_lt _ (by omega))), Nat.mul_mod_right]
          exact Int.dvd_zero _
  · rintro ⟨h1, r⟩ ⟨F1, V1, S1, E1⟩
    have K1 := sp_fr K F1
    have l1 : ah_i h1 171 p = nI l := by rw [fr_i F1 171 (by decide)]; exact hl
    refine X12_coloursOf_369 ⟨fun _ => ⟨o168 K1, 171, r168_3 K1, (s171 K1 _).mpr ((ix_nI (by omega)).mpr (by omega)), ?_⟩, fun w => absurd (show (100 : Int32) ≤ nI 100 by decide) w⟩
    rw [nI_clamp (by omega), l1]
    exact k h1 r F1 (EI_end E1 (Or.inl (fun c hc => hc))) E1.2.2.1
end MCOLS
