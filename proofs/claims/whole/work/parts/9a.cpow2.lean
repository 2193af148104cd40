/-! Colours: powerOf. -/
section CPOW
variable {h : AH} {d bc bs n md : Nat} {A m : Nat → Nat} {Q : Option Value → AH → Prop}
def wv (so : Nat → Nat) (c x : Nat) : Nat := (if x = so (4 * c) then 1 else 0) + (if x = so (4 * c + 2) then 1 else 0)
def cV (so : Nat → Nat) (md c x : Nat) : Nat := if x = so (4 * c + 1) then (wv so c x + md - 2) % md else wv so c x
theorem wv_2 (so : Nat → Nat) (c x : Nat) : wv so c x ≤ 2 := by
  unfold wv
  split <;> split <;> omega
theorem cV_cm (so : Nat → Nat) {md : Nat} (hm : 2 ≤ md) (c x : Nat) : (md : Int) ∣ (cV so md c x : Int) - cm so c x := by
  have w2 := wv_2 so c x
  have e : ((wv so c x : Nat) : Int) = (if x = so (4 * c) then 1 else 0) + (if x = so (4 * c + 2) then 1 else 0) := by
    unfold wv
    split <;> split <;> rfl
  unfold cV cm
  rw [← e]
  by_cases q : x = so (4 * c + 1)
  · rw [if_pos q, if_pos q]
    have := md_dvd md (wv so c x + md - 2)
    have e2 : ((wv so c x + md - 2 : Nat) : Int) = (wv so c x : Int) - 2 * 1 + (md : Int) := by omega
    rw [e2] at this
    have s := Int.dvd_add this (Int.dvd_refl (md : Int))
    rw [show ∀ a b k : Int, a - (b + k) + k = a - b from fun a b k => by omega] at s
    exact s
  · rw [if_neg q, if_neg q]
    rw [show ∀ a : Int, a - (a - 2 * 0) = 0 from fun a => by omega]
    exact Int.dvd_zero _
theorem c_powerOf {lb l : Nat} {so g : Nat → Nat} (K : sp h) (L : lk h lb) (hlb : lb + 11 ≤ 82) (P : Pr n A m) (h40 : n ≤ 40) (hn : ah_f h lb 10 = nI n) (hl : ah_f h lb 11 = nI l) (hm : ∀ x, x < 4 * n → ah_i h (lb + 1) x = nI (m x)) (im : inv_ md) (pm : prm md) (hmd : md = 3 ∨ md = 5 ∨ md = 7 ∨ md = 11)
    (hso : ∀ x, x < 4 * n → so x < ct (lm (sg n m)) (4 * n) ∧ (∀ y, y < 4 * n → lm (sg n m) y → sg n m y x → so x = ct (lm (sg n m)) y) ∧ ∀ x', x' < 4 * n → (so x = so x' ↔ sg n m x x')) (hg : ∀ i, i < 40 → ah_q h 84 i = some (85 + g i) ∧ g i < 40) (gi : ∀ i j, i < 40 → j < 40 → g i = g j → i = j)
    (k : ∀ (h2 h' : AH) (g' : Nat → Nat) (r : Nat), fr [82, 83] h h2 → fP h2 h' → (∀ i, i < 40 → ah_q h' 84 i = some (85 + g' i) ∧ g' i < 40) → (∀ i j, i < 40 → j < 40 → g' i = g' j → i = j) → EL md (fun i c => (cV so md i c : Int)) n (ct (lm (sg n m)) (4 * n)) r → r ≤ n → Q (some (.int (nI (ct (lm (sg n m)) (4 * n)) - nI r + nI l))) h') : ex_S yX1_powerOf mX1_powerOf (d + 3) [.ref 82, .ref lb, .int (nI md)] h bc bs Q := by
  have nS := nS_le P
  have m3 : 3 ≤ md ∧ md ≤ 11 := by omega
  have Qe := sg_EQ P
  have c2 : (2 : Int32) ≤ nI md ↔ 2 ≤ md := nI_leI (a := 2) (by omega) (by omega)
  refine X1_powerOf_e (X1_powerOf_0 ⟨fun _ => ⟨o82 K, ?_⟩, fun w => absurd (c2.mpr (by omega)) w⟩)
  refine c_findStrands K L hlb P h40 hn hm (fun h2 F2 z2 s2 => ⟨rfl, ?_⟩)
  obtain ⟨s, es⟩ : ∃ s, s = ct (lm (sg n m)) (4 * n) := ⟨_, rfl⟩
  rw [← es] at nS z2 k
  have K2 := sp_fr K F2
  have nb : lb ∉ [82, 83] := by simp only [List.mem_cons, List.not_mem_nil, or_false]; omega
  have v83 : ∀ x, x < 4 * n → ah_i h2 83 x = nI (so x) ∧ so x < s := fun x hx => by
    obtain ⟨y, a, b, c⟩ := lm_ex Qe hx
    exact ⟨by rw [s2 x y hx (by omega) a b, (hso x hx).2.1 y (by omega) a b], by rw [es]; exact (hso x hx).1⟩
  refine lp n (fun c h' => fP h2 h' ∧ RW h' g (cV so md) c s md) (fun c h' => ex_G mX1_powerOf (d + 3) 14 [.ref 82, .ref lb, .int (nI md), .int (nI c), .retAddr 0, .retAddr 0] [] h' bc bs Q) ⟨fP_refl h2, fun i hi => by rw [F2.1.2.2.2]; exact hg i hi, gi, fun i c hi => absurd hi (Nat.not_lt_zero i)⟩ ?_ ?_
  · rintro c h3 hc ⟨F3, R3⟩ nx
    have K3 := fP_sp K2 F3
    have L3 : lk h3 lb := by
      unfold lk ah_o ah_x at *
      rw [F3.1, F3.2.1, F3.2.2.1, F2.1.1, F2.1.2.1, F2.1.2.2.1]
      exact L
    obtain ⟨q1, q2⟩ := R3.1 c (by omega)
    have f10 : ah_f h3 lb 10 = nI n := by rw [(F3.2.2.2.1 lb (rwc_no (by omega))).1, fr_f F2 lb nb]; exact hn
    have e4 : (4 : Int32) * nI c = nI (4 * c) := pk_mul 4 c
    have e42 : nI (4 * c) + 2 = nI (4 * c + 2) := nI_add _ 2
    have e41 : nI (4 * c) + 1 = nI (4 * c + 1) := nI_add _ 1
    refine X1_powerOf_14 ⟨lk_o L3, fun w => ?_, fun _ => ⟨o82 K3, 84, r82_1 K3, (s84 K3 _).mpr ((ix_nI (by omega)).mpr (by omega)), 85 + g c, by rw [nI_clamp (by omega)]; exact q1, j_fill (n := 80) (rw_x K3 q2) (by omega) _ ⟨rfl, ?_⟩⟩⟩
    · rw [f10, nI_leI (by omega) (by omega)] at w
      omega
    have F11 : fr rwc h3 (ah_wi h3 (85 + g c) (fl (ah_i h3 (85 + g c)) 80 0)) := fr_wi (fr_refl _ h3) (rwc_in q2)
    have i11 : ∀ x, x < 80 → ah_i (ah_wi h3 (85 + g c) (fl (ah_i h3 (85 + g c)) 80 0)) (85 + g c) x = nI 0 := fun x hx => by
      rw [i_wi_s]
      unfold fl
      rw [if_pos hx]
      rfl
    have o11 : ∀ a, a ≠ 85 + g c → ah_i (ah_wi h3 (85 + g c) (fl (ah_i h3 (85 + g c)) 80 0)) a = ah_i h3 a := fun a ha => i_wi_n _ _ _ _ ha
    generalize ah_wi h3 (85 + g c) (fl (ah_i h3 (85 + g c)) 80 0) = h11 at F11 i11 o11 ⊢
    have K11 := sp_fr K3 F11
    have a83 : ∀ x, x < 4 * n → ah_i h11 83 x = nI (so x) := fun x hx => by rw [fr_i F11 83 (rwc_no (by omega)), (F3.2.2.2.1 83 (rwc_no (by omega))).2.1]; exact (v83 x hx).1
    have b0 := (v83 (4 * c) (by omega)).2
    have b1 := (v83 (4 * c + 1) (by omega)).2
    have b2 := (v83 (4 * c + 2) (by omega)).2
    refine ⟨o82 K11, 83, r82_0 K11, ?_⟩
    rw [e4, e42, e41, nI_clamp (by omega), nI_clamp (by omega), nI_clamp (by omega), a83 _ (by omega), nI_clamp (by omega)]
    refine ⟨(s83 K11 _).mpr ((ix_nI (by omega)).mpr (by omega)), (rw_s K11 q2 _).mpr ((ix_nI (by omega)).mpr (by omega)), (rw_t K11 q2 _).mpr ((ix_nI (by omega)).mpr (by omega)), fun h16 e16 => ?_⟩
    have F16 : fr rwc h3 h16 := by rw [e16]; exact fr_si F11 (rwc_in q2)
    have K16 := sp_fr K3 F16
    have i16 : ∀ x, x < 80 → ah_i h16 (85 + g c) x = nI (if x = so (4 * c) then 1 else 0) := fun x hx => by
      rw [e16, i_si_s, i11 _ (by omega)]
      unfold u1
      by_cases z : x = so (4 * c)
      · rw [if_pos z, if_pos z]; rfl
      · rw [if_neg z, if_neg z]; exact i11 x hx
    have o16 : ∀ a, a ≠ 85 + g c → ah_i h16 a = ah_i h3 a := fun a ha => by rw [e16, i_si_n _ _ _ _ _ ha]; exact o11 a ha
    have c83 : ∀ h', fr rwc h3 h' → ∀ x, x < 4 * n → ah_i h' 83 x = nI (so x) := fun h' F' x hx => by rw [fr_i F' 83 (rwc_no (by omega)), (F3.2.2.2.1 83 (rwc_no (by omega))).2.1]; exact (v83 x hx).1
    rw [c83 h16 F16 _ (by omega), nI_clamp (by omega)]
    refine ⟨(s83 K16 _).mpr ((ix_nI (by omega)).mpr (by omega)), (rw_s K16 q2 _).mpr ((ix_nI (by omega)).mpr (by omega)), (rw_t K16 q2 _).mpr ((ix_nI (by omega)).mpr (by omega)), fun h20 e20 => ?_⟩
    have F20 : fr rwc h3 h20 := by rw [e20]; exact fr_si F16 (rwc_in q2)
    have K20 := sp_fr K3 F20
    have i20 : ∀ x, x < 80 → ah_i h20 (85 + g c) x = nI (wv so c x) := fun x hx => by
      rw [e20, i_si_s, i16 _ (by omega)]
      unfold u1 wv
      by_cases z : x = so (4 * c + 2)
      · rw [if_pos z, if_pos z, z]
        exact nI_add _ 1
      · rw [if_neg z, if_neg z]; exact i16 x hx
    have o20 : ∀ a, a ≠ 85 + g c → ah_i h20 a = ah_i h3 a := fun a ha => by rw [e20, i_si_n _ _ _ _ _ ha]; exact o16 a ha
    refine ⟨(s83 K20 _).mpr ((ix_nI (by omega)).mpr (by omega)), fun x23 e23 => ?_⟩
    rw [c83 h20 F20 _ (by omega)] at e23
    subst e23
    rw [nI_clamp (by omega), i20 _ (by omega), fmV (wv_2 _ _ _) hmd]
    refine ⟨(rw_s K20 q2 _).mpr ((ix_nI (by omega)).mpr (by omega)), ⟨fun z => ?_, trivial⟩, (rw_t K20 q2 _).mpr ((ix_nI (by omega)).mpr (by omega)), fun h26 e26 x28 e28 => ?_⟩
    · have := (nI_eq (b := 0) (by omega) (by omega)).mp z
      omega
    have e28' : x28 = nI (c + 1) := by rw [e28]; exact nI_add _ 1
    rw [e28']
    have F26 : fr rwc h3 h26 := by rw [e26]; exact fr_si F20 (rwc_in q2)
    have i26 : ∀ x, x < 80 → ah_i h26 (85 + g c) x = nI (cV so md c x) := fun x hx => by
      rw [e26, i_si_s]
      unfold u1 cV
      by_cases z : x = so (4 * c + 1)
      · rw [if_pos z, if_pos z, z]
      · rw [if_neg z, if_neg z]; exact i20 x hx
    have o26 : ∀ a, a ≠ 85 + g c → ah_i h26 a = ah_i h3 a := fun a ha => by rw [e26, i_si_n _ _ _ _ _ ha]; exact o20 a ha
    refine nx h26 ⟨fP_trans F3 (fP_fr F26), fun i hi => by rw [F26.1.2.2.2]; exact R3.1 i hi, R3.2.1, fun i x hi hx => ?_⟩
    by_cases z : i = c
    · subst z
      refine ⟨?_, i26 x (by omega)⟩
      have := wv_2 so i x
      unfold cV
      split
      · exact Nat.mod_lt _ (by omega)
      · omega
    · rw [o26 _ (fun q => z (R3.2.1 i c (by omega) (by omega) (by omega)))]
      exact R3.2.2 i x (by omega) hx
  · rintro h3 ⟨F3, R3⟩
    have K3 := fP_sp K2 F3
    have L3 : lk h3 lb := by
      unfold lk ah_o ah_x at *
      rw [F3.1, F3.2.1, F3.2.2.1, F2.1.1, F2.1.2.1, F2.1.2.2.1]
      exact L
    have f10 : ah_f h3 lb 10 = nI n := by rw [(F3.2.2.2.1 lb (rwc_no (by omega))).1, fr_f F2 lb nb]; exact hn
    have z3 : ah_f h3 82 2 = nI s := by rw [(F3.2.2.2.1 82 (rwc_no (by omega))).1]; exact z2
    refine X1_powerOf_14 ⟨lk_o L3, fun _ => ⟨o82 K3, ?_⟩, fun w => absurd (by rw [f10]; exact (nI_leI (by omega) (by omega)).mpr (Nat.le_refl _)) w⟩
    rw [f10]
    refine c_rank (d := d) K3 im pm R3 h40 (by omega) z3 (fun h4 g4 V4 r F4 R4 E4 r4 => ⟨_, rfl, ?_⟩)
    have L4 : lk h4 lb := by
      unfold lk ah_o ah_x at *
      rw [F4.1, F4.2.1, F4.2.2.1]
      exact L3
    refine ⟨lk_o L4, ?_⟩
    have l4 : ah_f h4 lb 11 = nI l := by rw [(F4.2.2.2.1 lb (rwc_no (by omega))).1, (F3.2.2.2.1 lb (rwc_no (by omega))).1, fr_f F2 lb nb]; exact hl
    rw [z3, l4]
    rw [← es] at *
    exact k h2 h4 g4 r F2 (fP_trans F3 F4) R4.1 R4.2.1 E4 r4
end CPOW
