/-! Colouring: clearing rows, the class. -/
/-- rows V of the colouring, by way of g -/
def RW (h : AH) (g : Nat → Nat) (V : Nat → Nat → Nat) (n s m : Nat) : Prop := (∀ i, i < 40 → ah_q h 84 i = some (85 + g i) ∧ g i < 40) ∧ (∀ i j, i < 40 → j < 40 → g i = g j → i = j) ∧ ∀ i c, i < n → c < s → V i c < m ∧ ah_i h (85 + g i) c = nI (V i c)
def rwc : List Nat := (List.range 40).map (85 + ·)
theorem rwc_in {j : Nat} (h : j < 40) : 85 + j ∈ rwc := List.mem_map.mpr ⟨j, List.mem_range.mpr h, rfl⟩
theorem rwc_no {a : Nat} (h : a < 85 ∨ 125 ≤ a) : a ∉ rwc := fun q => by
  obtain ⟨j, hj, e⟩ := List.mem_map.mp q
  have := List.mem_range.mp hj
  omega
section CRANK
variable {h : AH} {d bc bs n s m : Nat} {Q : Option Value → AH → Prop} {g : Nat → Nat} {V : Nat → Nat → Nat}
theorem rw_x (K : sp h) {j : Nat} (hj : j < 40) : ah_x h (85 + j) 0 80 := sp_x K (85 + j) (by omega) ((by decide : ∀ j, j < 40 → kd (85 + j) = (0, 80)) j hj)
theorem rw_s (K : sp h) {j : Nat} (hj : j < 40) (i : Int32) : ld0 h (85 + j) i ↔ ix i 80 := ld0_x (rw_x K hj) i (by omega)
theorem rw_t (K : sp h) {j : Nat} (hj : j < 40) (i : Int32) : st0 h (85 + j) i ↔ ix i 80 := st0_x (rw_x K hj) i
theorem c_pivotOf {c r : Nat} (K : sp h) (R : RW h g V n s m) (h40 : n ≤ 40) (hs : s ≤ 80) (hm : m < 1000) (hc : c < s) (hr : r ≤ n)
    (k1 : ∀ q, r ≤ q → q < n → V q c ≠ 0 → Q (some (.int (nI q))) h) (k0 : (∀ i, r ≤ i → i < n → V i c = 0) → Q (some (.int m1)) h) : ex_S yX1_pivotOf mX1_pivotOf d [.ref 82, .int (nI c), .int (nI r), .int (nI n)] h bc bs Q := by
  refine X1_pivotOf_e (X1_pivotOf_0 ?_)
  refine lpf r n (fun i h' => h' = h ∧ ∀ i', r ≤ i' → i' < i → V i' c = 0) (fun i h' => ex_G mX1_pivotOf d 3 [.ref 82, .int (nI c), .retAddr 0, .int (nI n), .int (nI i)] [] h' bc bs Q) hr ⟨rfl, fun i' a b => by omega⟩ ?_ ?_
  · rintro i h1 hi1 hi2 ⟨rfl, I⟩ nx
    obtain ⟨q1, q2⟩ := R.1 i (by omega)
    obtain ⟨v1, v2⟩ := R.2.2 i c hi2 hc
    refine X1_pivotOf_3 ⟨fun w => ?_, fun _ => ⟨o82 K, 84, r82_1 K, (s84 K _).mpr ((ix_nI (by omega)).mpr (by omega)), 85 + g i, by rw [nI_clamp (by omega)]; exact q1, (rw_s K q2 _).mpr ((ix_nI (by omega)).mpr (by omega)), ?_⟩⟩
    · rw [nI_leI (by omega) (by omega)] at w
      omega
    rw [nI_clamp (by omega), v2]
    have c0 : nI (V i c) = 0 ↔ V i c = 0 := nI_eq (b := 0) (by omega) (by omega)
    rw [c0]
    refine ⟨fun z x8 e8 => ?_, fun z => k1 i hi1 hi2 z⟩
    have e8' : x8 = nI (i + 1) := by rw [e8]; exact nI_add _ 1
    rw [e8']
    refine nx h1 ⟨rfl, fun i' a b => ?_⟩
    by_cases w : i' = i
    · rw [w]; exact z
    · exact I i' a (by omega)
  · rintro h1 ⟨rfl, I⟩
    exact X1_pivotOf_3 ⟨fun _ => k0 I, fun w => absurd ((nI_leI (by omega) (by omega)).mpr (Nat.le_refl _)) w⟩
/-- each number but 0 has an inverse -/
def inv_ (m : Nat) : Prop := 2 ≤ m ∧ m ≤ 11 ∧ ∀ v, v < m → v ≠ 0 → ∃ t, 0 < t ∧ t < m ∧ t * v % m = 1
theorem inv_3 : inv_ 3 := ⟨by decide, by decide, fun v hv h0 => ⟨v ^ 1 % 3, (by decide : ∀ v, v < 3 → v ≠ 0 → 0 < v ^ 1 % 3 ∧ v ^ 1 % 3 < 3 ∧ v ^ 1 % 3 * v % 3 = 1) v hv h0⟩⟩
theorem inv_5 : inv_ 5 := ⟨by decide, by decide, fun v hv h0 => ⟨v ^ 3 % 5, (by decide : ∀ v, v < 5 → v ≠ 0 → 0 < v ^ 3 % 5 ∧ v ^ 3 % 5 < 5 ∧ v ^ 3 % 5 * v % 5 = 1) v hv h0⟩⟩
theorem inv_7 : inv_ 7 := ⟨by decide, by decide, fun v hv h0 => ⟨v ^ 5 % 7, (by decide : ∀ v, v < 7 → v ≠ 0 → 0 < v ^ 5 % 7 ∧ v ^ 5 % 7 < 7 ∧ v ^ 5 % 7 * v % 7 = 1) v hv h0⟩⟩
theorem inv_11 : inv_ 11 := ⟨by decide, by decide, fun v hv h0 => ⟨v ^ 9 % 11, (by decide : ∀ v, v < 11 → v ≠ 0 → 0 < v ^ 9 % 11 ∧ v ^ 9 % 11 < 11 ∧ v ^ 9 % 11 * v % 11 = 1) v hv h0⟩⟩
theorem c_inverse {v : Nat} (im : inv_ m) (hv : v < m) (h0 : v ≠ 0) (k : ∀ t, 0 < t → t < m → t * v % m = 1 → Q (some (.int (nI t))) h) : ex_S yX1_inverse mX1_inverse d [.int (nI v), .int (nI m)] h bc bs Q := by
  obtain ⟨m2, m11, ex⟩ := im
  refine X1_inverse_e (X1_inverse_0 ?_)
  refine lpf 1 m (fun t h' => h' = h ∧ ∀ t', 0 < t' → t' < t → t' * v % m ≠ 1) (fun t h' => ex_G mX1_inverse d 2 [.int (nI v), .int (nI m), .int (nI t)] [] h' bc bs Q) (by omega) ⟨rfl, fun t' a b => by omega⟩ ?_ ?_
  · rintro t h1 ht1 ht2 ⟨rfl, I⟩ nx
    have b : t * v < 200 := Nat.lt_of_le_of_lt (Nat.mul_le_mul (show t ≤ 11 by omega) (show v ≤ 11 by omega)) (by decide)
    have e1 : nI t * nI v = nI (t * v) := pk_mul t v
    have e2 : im_ (nI (t * v)) (nI m) = nI (t * v % m) := im_nI (by omega) (by omega) (by omega)
    have lt := Nat.mod_lt (t * v) (show 0 < m by omega)
    have c1 : nI (t * v % m) = 1 ↔ t * v % m = 1 := nI_eq (b := 1) (by omega) (by omega)
    refine X1_inverse_2 ⟨fun w => ?_, fun _ => ⟨fun z => ?_, ?_⟩⟩
    · rw [nI_leI (by omega) (by omega)] at w
      omega
    · have := (nI_eq (b := 0) (by omega) (by omega)).mp z
      omega
    rw [e1, e2, c1]
    refine ⟨fun w x4 e4 => ?_, fun w => k t (by omega) ht2 w⟩
    have e4' : x4 = nI (t + 1) := by rw [e4]; exact nI_add _ 1
    rw [e4']
    refine nx h1 ⟨rfl, fun t' a b' => ?_⟩
    by_cases q : t' = t
    · rw [q]; exact w
    · exact I t' a (by omega)
  · rintro h1 ⟨rfl, I⟩
    obtain ⟨t, a, b, c⟩ := ex v hv h0
    exact absurd c (I t a b)
/-- what clearing below row r does -/
def CB (V V' : Nat → Nat → Nat) (n s m r c : Nat) : Prop := (∀ i, i ≤ r → ∀ x, x < s → V' i x = V i x) ∧ ∀ i, r < i → i < n → ∃ k, (∀ x, x < s → c ≤ x → V' i x = (V i x + k * V r x) % m) ∧ (∀ x, x < c → V' i x = V i x) ∧ V' i c = 0
theorem c_clearBelow {c r : Nat} (K : sp h) (im : inv_ m) (R : RW h g V n s m) (h40 : n ≤ 40) (hs : s ≤ 80) (hst : ah_f h 82 2 = nI s) (hc : c < s) (hr : r < n) (h0 : V r c ≠ 0)
    (k : ∀ h' V', fr rwc h h' → RW h' g V' n s m → CB V V' n s m r c → Q none h') : ex_S yX1_clearBelow mX1_clearBelow (d + 1) [.ref 82, .int (nI c), .int (nI r), .int (nI n), .int (nI m)] h bc bs Q := by
  obtain ⟨m2, m11, -⟩ := id im
  obtain ⟨q1, q2⟩ := R.1 r (by omega)
  obtain ⟨v1, v2⟩ := R.2.2 r c hr hc
  refine X1_clearBelow_e (X1_clearBelow_0 ⟨o82 K, 84, r82_1 K, (s84 K _).mpr ((ix_nI (by omega)).mpr (by omega)), 85 + g r, by rw [nI_clamp (by omega)]; exact q1, (rw_s K q2 _).mpr ((ix_nI (by omega)).mpr (by omega)), ?_⟩)
  rw [nI_clamp (by omega), v2]
  refine c_inverse im v1 h0 (fun sc sc0 scm sce => ⟨_, rfl, fun x8 e8 => ?_⟩)
  have e8' : x8 = nI (r + 1) := by rw [e8]; exact nI_add _ 1
  rw [e8']
  -- one row after another
  refine lpf (r + 1) n (fun i h' => fr rwc h h' ∧ ∃ V', RW h' g V' n s m ∧ (∀ i', i' ≤ r ∨ i ≤ i' → ∀ x, x < s → V' i' x = V i' x) ∧ ∀ i', r < i' → i' < i → ∃ k, (∀ x, x < s → c ≤ x → V' i' x = (V i' x + k * V r x) % m) ∧ (∀ x, x < c → V' i' x = V i' x) ∧ V' i' c = 0) (fun i h' => ex_G mX1_clearBelow (d + 1) 24 [.ref 82, .int (nI c), .retAddr 0, .int (nI n), .int (nI m), .ref (85 + g r), .int (nI sc), .int (nI i), .retAddr 0, .retAddr 0, .retAddr 0] [] h' bc bs Q) (by omega) ⟨fr_refl _ h, V, R, fun _ _ _ _ => rfl, fun i' a b => by omega⟩ ?_ ?_
  · rintro i h1 hi1 hi2 ⟨F1, V1, R1, I1, I2⟩ nx
    have K1 := sp_fr K F1
    obtain ⟨p1, p2⟩ := R1.1 i (by omega)
    obtain ⟨u1_, u2⟩ := R1.2.2 i c hi2 hc
    have ei := I1 i (Or.inr (Nat.le_refl _))
    have er := I1 r (Or.inl (Nat.le_refl _))
    have gne : g i ≠ g r := fun z => by
      have := R1.2.1 i r (by omega) (by omega) z
      omega
    have b1 : V i c * sc < 200 := Nat.lt_of_le_of_lt (Nat.mul_le_mul (show V i c ≤ 11 by rw [← ei c hc]; omega) (show sc ≤ 11 by omega)) (by decide)
    have lt := Nat.mod_lt (V i c * sc) (show 0 < m by omega)
    have f1 : ah_f h1 82 2 = nI s := by rw [fr_f F1 82 (rwc_no (by omega))]; exact hst
    refine X1_clearBelow_24 ⟨fun w => ?_, fun _ => ⟨o82 K1, 84, r82_1 K1, (s84 K1 _).mpr ((ix_nI (by omega)).mpr (by omega)), 85 + g i, by rw [nI_clamp (by omega)]; exact p1, (rw_s K1 p2 _).mpr ((ix_nI (by omega)).mpr (by omega)), fun z => ?_, fun x8 e8 => ?_⟩⟩
    · rw [nI_leI (by omega) (by omega)] at w
      omega
    · have := (nI_eq (b := 0) (by omega) (by omega)).mp z
      omega
    have e1 : nI (V i c) * nI sc = nI (V i c * sc) := pk_mul _ _
    have e2 : im_ (nI (V i c * sc)) (nI m) = nI (V i c * sc % m) := im_nI (by omega) (by omega) (by omega)
    have e3 : nI m - nI (V i c * sc % m) = nI (m - V i c * sc % m) := pk_sub (by omega)
    have e8'' : x8 = nI (m - V i c * sc % m) := by rw [e8, nI_clamp (by omega), u2, ei c hc, e1, e2, e3]
    clear e8
    subst e8''
    have kill : (V i c + (m - V i c * sc % m) * V r c) % m = 0 := by
      have h1 : (sc * V r c) % m = 1 := sce
      obtain ⟨w, hw⟩ : ∃ w, sc * V r c = 1 + m * w := ⟨sc * V r c / m, by have := Nat.div_add_mod (sc * V r c) m; rw [h1] at this; omega⟩
      obtain ⟨y, hy⟩ : ∃ y, V i c * sc = V i c * sc % m + m * y := ⟨V i c * sc / m, by have := Nat.div_add_mod (V i c * sc) m; omega⟩
      have z1 : V i c * sc * V r c = V i c + m * (V i c * w) := by rw [Nat.mul_assoc, hw, Nat.mul_add, Nat.mul_one, Nat.mul_left_comm]
      have z2 : V i c * sc * V r c = V i c * sc % m * V r c + m * (y * V r c) := by
        have := congrArg (· * V r c) hy
        have this' : V i c * sc * V r c = (V i c * sc % m + m * y) * V r c := this
        rw [Nat.add_mul, Nat.mul_assoc m] at this'
        exact this'
      have z3 : (m - V i c * sc % m) * V r c + V i c * sc % m * V r c = m * V r c := by rw [← Nat.add_mul, Nat.sub_add_cancel (by omega)]
      have z4 : V i c + (m - V i c * sc % m) * V r c + m * (V i c * w) = m * (V r c + y * V r c) := by
        rw [Nat.mul_add]
        omega
      have z5 : (V i c + (m - V i c * sc % m) * V r c + m * (V i c * w)) % m = 0 := by rw [z4]; exact Nat.mul_mod_right _ _
      rw [Nat.add_mul_mod_self_left] at z5
      exact z5
    have cm : nI (m - V i c * sc % m) = nI m ↔ m - V i c * sc % m = m := nI_eq (by omega) (by omega)
    rw [cm]
    refine ⟨fun w => ?_, fun w x10 e10 => ?_⟩
    · -- columns from c on
      have kb : m - V i c * sc % m ≤ 11 := by omega
      refine lpf c s (fun x h' => fr rwc h h' ∧ (∀ a, a ≠ 85 + g i → ah_i h' a = ah_i h1 a) ∧ (∀ y, y < x → c ≤ y → ah_i h' (85 + g i) y = nI ((V i y + (m - V i c * sc % m) * V r y) % m)) ∧ ∀ y, x ≤ y ∨ y < c → ah_i h' (85 + g i) y = ah_i h1 (85 + g i) y) (fun x h' => ex_G mX1_clearBelow (d + 1) 67 [.ref 82, .int (nI c), .retAddr 0, .int (nI n), .int (nI m), .ref (85 + g r), .int (nI sc), .int (nI i), .ref (85 + g i), .int (nI (m - V i c * sc % m)), .int (nI x)] [] h' bc bs Q) (by omega) ⟨F1, fun _ _ => rfl, fun y a b => by omega, fun _ _ => rfl⟩ ?_ ?_
      · rintro x h2 hx1 hx2 ⟨F2, J1, J2, J3⟩ nx2
        have K2 := sp_fr K F2
        have f2 : ah_f h2 82 2 = nI s := by rw [fr_f F2 82 (rwc_no (by omega))]; exact hst
        obtain ⟨a1, a2⟩ := R1.2.2 i x hi2 hx2
        obtain ⟨b1', b2'⟩ := R1.2.2 r x hr hx2
        rw [er x hx2] at b1' b2'
        rw [ei x hx2] at a1 a2
        refine X1_clearBelow_67 ⟨o82 K2, fun z => ?_, fun _ => ⟨(rw_s K2 p2 _).mpr ((ix_nI (by omega)).mpr (by omega)), (rw_s K2 q2 _).mpr ((ix_nI (by omega)).mpr (by omega)), fun z => ?_, (rw_t K2 p2 _).mpr ((ix_nI (by omega)).mpr (by omega)), fun h7 e7 x9 e9 => ?_⟩⟩
        · rw [f2, nI_leI (by omega) (by omega)] at z
          omega
        · have := (nI_eq (b := 0) (by omega) (by omega)).mp z
          omega
        have bb : (m - V i c * sc % m) * V r x < 200 := Nat.lt_of_le_of_lt (Nat.mul_le_mul kb (show V r x ≤ 11 by omega)) (by decide)
        have val : im_ (ah_i h2 (85 + g i) x + nI (m - V i c * sc % m) * ah_i h2 (85 + g r) x) (nI m) = nI ((V i x + (m - V i c * sc % m) * V r x) % m) := by
          rw [J3 x (Or.inl (Nat.le_refl _)), J1 (85 + g r) (by omega), a2, b2', pk_mul, nI_add]
          exact im_nI (by omega) (by omega) (by omega)
        rw [nI_clamp (by omega), val] at e7
        have F7 : fr rwc h h7 := by rw [e7]; exact fr_si F2 (rwc_in p2)
        have e9' : x9 = nI (x + 1) := by rw [e9]; exact nI_add _ 1
        rw [e9']
        refine nx2 h7 ⟨F7, fun a ha => by rw [e7, i_si_n _ _ _ _ _ ha]; exact J1 a ha, fun y a b => ?_, fun y hy => ?_⟩
        · rw [e7, i_si_s]
          by_cases z : y = x
          · rw [z, u1_s]
          · rw [u1_n _ _ z]; exact J2 y (by omega) b
        · rw [e7, i_si_s, u1_n _ _ (by omega)]
          exact J3 y (by omega)
      · rintro h2 ⟨F2, J1, J2, J3⟩
        have K2 := sp_fr K F2
        have f2 : ah_f h2 82 2 = nI s := by rw [fr_f F2 82 (rwc_no (by omega))]; exact hst
        refine X1_clearBelow_67 ⟨o82 K2, fun _ x3 e3 => ?_, fun z => absurd (by rw [f2]; exact (nI_leI (by omega) (by omega)).mpr (Nat.le_refl _)) z⟩
        have e3' : x3 = nI (i + 1) := by rw [e3]; exact nI_add _ 1
        rw [e3']
        refine nx h2 ⟨F2, fun i' x => if i' = i ∧ c ≤ x then (V i x + (m - V i c * sc % m) * V r x) % m else V1 i' x, ⟨fun j hj => by rw [F2.1.2.2.2, ← F1.1.2.2.2]; exact R1.1 j hj, R1.2.1, fun i' x hi' hx => ?_⟩, fun i' hi' x hx => ?_, fun i' a b => ?_⟩
        · show (if i' = i ∧ c ≤ x then _ else V1 i' x) < m ∧ ah_i h2 (85 + g i') x = nI (if i' = i ∧ c ≤ x then _ else V1 i' x)
          obtain ⟨c1, c2⟩ := R1.2.2 i' x hi' hx
          by_cases z : i' = i
          · subst z
            by_cases z2 : c ≤ x
            · rw [if_pos ⟨rfl, z2⟩]
              exact ⟨Nat.mod_lt _ (by omega), J2 x hx z2⟩
            · rw [if_neg (fun q => z2 q.2), J3 x (Or.inr (by omega))]
              exact ⟨c1, c2⟩
          · rw [if_neg (fun q => z q.1), J1 _ (fun q => z (R1.2.1 i' i (by omega) (by omega) (by omega)))]
            exact ⟨c1, c2⟩
        · show (if i' = i ∧ c ≤ x then _ else V1 i' x) = V i' x
          rw [if_neg (fun q => by omega)]
          exact I1 i' (by omega) x hx
        · by_cases z : i' = i
          · subst z
            refine ⟨m - V i' c * sc % m, fun x hx hcx => if_pos ⟨rfl, hcx⟩, fun x hx => ?_, ?_⟩
            · show (if i' = i' ∧ c ≤ x then _ else V1 i' x) = V i' x
              rw [if_neg (fun q => by omega)]
              exact ei x (by omega)
            · show (if i' = i' ∧ c ≤ c then _ else V1 i' c) = 0
              rw [if_pos ⟨rfl, Nat.le_refl _⟩]
              exact kill
          · obtain ⟨k', g1, g2, g3⟩ := I2 i' a (by omega)
            refine ⟨k', fun x hx hcx => ?_, fun x hx => ?_, ?_⟩
            · show (if i' = i ∧ c ≤ x then _ else V1 i' x) = _
              rw [if_neg (fun q => z q.1)]; exact g1 x hx hcx
            · show (if i' = i ∧ c ≤ x then _ else V1 i' x) = _
              rw [if_neg (fun q => z q.1)]; exact g2 x hx
            · show (if i' = i ∧ c ≤ c then _ else V1 i' c) = _
              rw [if_neg (fun q => z q.1)]; exact g3
    · -- nothing to do
      have e10' : x10 = nI (i + 1) := by rw [e10]; exact nI_add _ 1
      rw [e10']
      have z0 : V i c = 0 := by
        rw [w, Nat.add_mul_mod_self_left] at kill
        rw [Nat.mod_eq_of_lt (by rw [← ei c hc]; exact u1_)] at kill
        exact kill
      refine nx h1 ⟨F1, V1, R1, fun i' hi' x hx => I1 i' (by omega) x hx, fun i' a b => ?_⟩
      by_cases z : i' = i
      · subst z
        refine ⟨0, fun x hx _ => ?_, fun x hx => ei x (by omega), by rw [ei c hc]; exact z0⟩
        obtain ⟨c1, c2⟩ := R1.2.2 i' x hi2 hx
        rw [ei x hx] at c1 ⊢
        rw [Nat.zero_mul, Nat.add_zero, Nat.mod_eq_of_lt c1]
      · exact I2 i' a (by omega)
  · rintro h1 ⟨F1, V1, R1, I1, I2⟩
    exact X1_clearBelow_24 ⟨fun _ => k h1 V1 F1 R1 ⟨fun i hi x hx => I1 i (Or.inl hi) x hx, I2⟩, fun w => absurd ((nI_leI (by omega) (by omega)).mpr (Nat.le_refl _)) w⟩
end CRANK
