/-! at. -/
section AT
variable {h : AH} {d bc bs : Nat} {W : Nat → Nat} {N : Nat} {B : Nat → Nat} {S : Nat → Int32} {len : Nat}
theorem add_lit {v c : Int32} {k : Int} (hc : c.toInt = k) (h1 : -1000000 ≤ v.toInt) (h2 : v.toInt ≤ 1000000) (k1 : -1000000 ≤ k) (k2 : k ≤ 1000000) : (v + c).toInt = v.toInt + k := by
  rw [Int32.toInt_add, hc]
  unfold Int.bmod
  simp only
  split <;> omega
theorem st_at (x : R0 h W N B S len) (v : Int32) : STL yX11_at mX11_at yX12_at mX12_at (d + 1) (d + 1) [.int v] h bc bs W S len := by
  have K := x.2.1
  obtain ⟨y, y1, y2, y3, y4⟩ := x.2.2.2.2.2.2.2.1
  have e140 : (-140 : Int32).toInt = -140 := by decide
  have e14 : (140 : Int32).toInt = 140 := by decide
  have e300 : (300 : Int32).toInt = 300 := by decide
  have l1 : v < -140 ↔ v.toInt < -140 := by rw [Int32.lt_iff_toInt_lt, e140]
  have l2 : 140 < v ↔ 140 < v.toInt := by rw [Int32.lt_iff_toInt_lt, e14]
  have hin : X12_in_V (Int32.toInt64 v) (-300) 300 h = 0 ↔ ¬ (-300 ≤ v.toInt ∧ v.toInt ≤ 300) := in_rg (-300) 300 (by decide) (by decide) h
  have yx : ah_x h y 2 281 := by
    rcases y1 with e | e
    · rw [e]; exact sp_x K 74 (by decide) rfl
    · rw [e]; exact sp_x K 75 (by decide) rfl
  have k140 : -140 ≤ v.toInt → v.toInt ≤ 140 → ∃ k : Nat, k < 281 ∧ v + 140 = nI k ∧ v.toInt + 140 = k := fun a b => by
    have e := add_lit (v := v) (c := 140) e14 (by omega) (by omega) (by omega) (by omega)
    obtain ⟨k, hk, ek⟩ := ix_of (show ix (v + 140) 281 from ⟨by rw [e]; omega, by rw [e]; omega⟩) (by decide)
    refine ⟨k, hk, ek, ?_⟩
    rw [← e, ek, nI_toInt (by omega)]
  have k300 : -300 ≤ v.toInt → v.toInt ≤ 300 → ∃ k : Nat, k < 601 ∧ v + 300 = nI k ∧ v.toInt + 300 = k := fun a b => by
    have e := add_lit (v := v) (c := 300) e300 (by omega) (by omega) (by omega) (by omega)
    obtain ⟨k, hk, ek⟩ := ix_of (show ix (v + 300) 601 from ⟨by rw [e]; omega, by rw [e]; omega⟩) (by decide)
    refine ⟨k, hk, ek, ?_⟩
    rw [← e, ek, nI_toInt (by omega)]
  refine X11_at_s ⟨o0 K, 73, r0_8 K, o73 K, ⟨fun _ => trivial, fun a => ⟨fun _ => trivial, fun b => ⟨o73 K, y, y2, ?_, trivial⟩⟩⟩, trivial⟩ ⟨_, rfl, ?_⟩
  · rw [l1] at a
    rw [l2] at b
    obtain ⟨k, hk, ek, -⟩ := k140 (by omega) (by omega)
    rw [ld2_x yx, ek, ix_nI (by omega)]
    exact hk
  · refine X12_at_s ⟨o168 K, fun _ => trivial, fun _ => ⟨fun _ => trivial, fun z => ⟨186, r168_21 K, ?_, trivial⟩⟩⟩ ⟨?_, D_id x⟩
    · rw [hin, Classical.not_not] at z
      obtain ⟨k, hk, ek, -⟩ := k300 z.1 z.2
      rw [s186 K, ek, ix_nI (by omega)]
      exact hk
    · unfold X11_at_V X12_at_V X2_numberAt_V
      rw [r0_8 K, Option.getD_some, y2, Option.getD_some, r168_21 K, Option.getD_some]
      rcases y4 with ⟨z0, z1⟩ | ⟨z0, z1, z2, z3⟩
      · have z0' : ah_f h 168 22 = 0 := z0
        rw [if_pos z0']
        by_cases a : v < -140
        · rw [if_pos a]
        · rw [if_neg a]
          by_cases b : 140 < v
          · rw [if_pos b]
          · rw [if_neg b]
            rw [l1] at a
            rw [l2] at b
            obtain ⟨k, hk, ek, -⟩ := k140 (by omega) (by omega)
            rw [ek, nI_clamp (by omega), z1 k hk]
      · have z0' : ¬ ah_f h 168 22 = 0 := by rw [z0]; decide
        rw [if_neg z0']
        by_cases q : -300 ≤ v.toInt ∧ v.toInt ≤ 300
        · rw [if_neg (fun w => hin.mp w q)]
          obtain ⟨m, hm, em, vm⟩ := k300 q.1 q.2
          rw [em, nI_clamp (by omega)]
          by_cases a : v < -140
          · rw [if_pos a]
            rw [l1] at a
            rw [z2 m hm (by omega)]
          · rw [if_neg a]
            by_cases b : 140 < v
            · rw [if_pos b]
              rw [l2] at b
              rw [z2 m hm (by omega)]
            · rw [if_neg b]
              rw [l1] at a
              rw [l2] at b
              obtain ⟨k, hk, ek, vk⟩ := k140 (by omega) (by omega)
              rw [ek, nI_clamp (by omega), z1 k hk, show k + 160 = m by omega]
        · rw [if_pos (hin.mpr q)]
          by_cases a : v < -140
          · rw [if_pos a]
          · rw [if_neg a]
            rw [l1] at a
            rw [if_pos (by rw [l2]; omega)]
end AT
