/-! The first state with the fewest crossings; the ways to a state. -/
def bst (N : Nat → Nat) : Nat → Nat
  | 0 => 0
  | k + 1 => if N k < N (bst N k) then k else bst N k
theorem bst_lt (N : Nat → Nat) : ∀ k, bst N (k + 1) < k + 1 := by
  intro k
  induction k with
  | zero =>
    show (if N 0 < N 0 then 0 else 0) < 1
    split <;> decide
  | succ k ih =>
    show (if N (k + 1) < N (bst N (k + 1)) then k + 1 else bst N (k + 1)) < k + 1 + 1
    split <;> omega
theorem bst_1 (N : Nat → Nat) : bst N 1 = 0 := by
  show (if N 0 < N 0 then 0 else 0) = 0
  split <;> rfl
/-- back from a state -/
def chn (F : Nat → Nat) (a : Nat) : Nat → Nat
  | 0 => a
  | i + 1 => F (chn F a i)
theorem chn_s (F : Nat → Nat) (a : Nat) : ∀ i, chn F a (i + 1) = chn F (F a) i := by
  intro i
  induction i with
  | zero => rfl
  | succ i ih =>
    show F (chn F a (i + 1)) = F (chn F (F a) i)
    rw [ih]
theorem chn_len {F : Nat → Nat} {c : Nat} (hF : ∀ k, 0 < k → k < c → F k < k) : ∀ a, a < c → ∃ L, L ≤ a ∧ chn F a L = 0 ∧ ∀ i, i < L → 0 < chn F a i ∧ chn F a i < c := by
  have key : ∀ t a, a < t → a < c → ∃ L, L ≤ a ∧ chn F a L = 0 ∧ ∀ i, i < L → 0 < chn F a i ∧ chn F a i < c := by
    intro t
    induction t with
    | zero => intro a ha; omega
    | succ t ih =>
      intro a ha hc
      by_cases z : a = 0
      · subst z
        exact ⟨0, Nat.le_refl _, rfl, fun i hi => absurd hi (Nat.not_lt_zero i)⟩
      · have f1 := hF a (by omega) hc
        obtain ⟨L, l1, l2, l3⟩ := ih (F a) (by omega) (by omega)
        refine ⟨L + 1, by omega, by rw [chn_s]; exact l2, fun i hi => ?_⟩
        cases i with
        | zero => exact ⟨by show 0 < a; omega, hc⟩
        | succ i =>
          rw [chn_s]
          exact l3 i (by omega)
  exact fun a ha => key (a + 1) a (by omega) ha
section SWAYS
variable {h h1 h2 h' : AH} {d bc bs : Nat} {Q : Option Value → AH → Prop} {W : Nat → Nat} {u c cu s e : Nat} {D : SD} {st : Int32}
theorem c_smallest (K : sp h) (su : SK h W u c D) (c0 : 0 < c) (gs : ∀ k, k < c → (D k).1 ≤ 12) (kk : Q (some (.int (nI (bst (fun k => (D k).1) c)))) h) : ex_S yX8_smallest mX8_smallest d [.ref 125] h bc bs Q := by
  have u100 := su.1.1
  have cu_ := su.2.1
  refine X8_smallest_e (X8_smallest_0 ?_)
  suffices hk : ex_G mX8_smallest d 4 [.ref 125, .int (nI (bst (fun k => (D k).1) 1)), .int (nI 1)] [] h bc bs Q by
    rw [bst_1] at hk
    exact hk
  refine lpf 1 c (fun _ (_ : Unit) => True) (fun j _ => ex_G mX8_smallest d 4 [.ref 125, .int (nI (bst (fun k => (D k).1) j)), .int (nI j)] [] h bc bs Q) (s := ()) (by omega) trivial ?_ ?_
  · rintro j - j0 hj - next
    have nx := next () trivial
    obtain ⟨t, rfl⟩ : ∃ t, j = t + 1 := ⟨j - 1, by omega⟩
    have lt := bst_lt (fun k => (D k).1) t
    obtain ⟨a, y⟩ := su.2.2.2 (t + 1) hj
    obtain ⟨b, z⟩ := su.2.2.2 (bst (fun k => (D k).1) (t + 1)) (by omega)
    have i1 := gs (t + 1) hj
    have i2 := gs (bst (fun k => (D k).1) (t + 1)) (by omega)
    refine X8_smallest_4 ⟨o125 K, fun w => ?_, fun _ => ⟨126, r125_0 K, (s126 K _).mpr ((ix_nI (by omega)).mpr (by omega)), a, by rw [nI_clamp (by omega)]; exact y.1, y.2.1.2.1.2.1, (s126 K _).mpr ((ix_nI (by omega)).mpr (by omega)), b, by rw [nI_clamp (by omega)]; exact z.1, z.2.1.2.1.2.1, ?_⟩⟩
    · rw [su.2.2.1, nI_leI (by omega) (by omega)] at w
      omega
    · rw [y.2.2.1.1, z.2.2.1.1, nI_leI (by omega) (by omega)]
      refine ⟨fun le x11 e11 => ?_, fun gt x12 e12 => ?_⟩
      · rw [e11, show nI (t + 1) + 1 = nI (t + 1 + 1) from nI_add (t + 1) 1]
        have eb : bst (fun k => (D k).1) (t + 1 + 1) = bst (fun k => (D k).1) (t + 1) := if_neg (by show ¬ (D (t + 1)).1 < (D (bst (fun k => (D k).1) (t + 1))).1; omega)
        rw [eb] at nx
        exact nx
      · rw [e12, show nI (t + 1) + 1 = nI (t + 1 + 1) from nI_add (t + 1) 1]
        have eb : bst (fun k => (D k).1) (t + 1 + 1) = t + 1 := if_pos (by show (D (t + 1)).1 < (D (bst (fun k => (D k).1) (t + 1))).1; omega)
        rw [eb] at nx
        exact nx
  · rintro - -
    refine X8_smallest_4 ⟨o125 K, fun _ => kk, fun w => absurd ?_ w⟩
    rw [su.2.2.1]
    exact (nI_leI (by omega) (by omega)).mpr (Nat.le_refl _)
theorem m_fewest (x : MSI h c D cu s e st) (c0 : 0 < c) (c100 : c ≤ 100) (gs : ∀ k, k < c → (D k).1 ≤ 12) (kk : Q (some (.int (nI (bst (fun k => (D k).1) c)))) h) : ex_S yX12_fewest mX12_fewest d [.ref 168] h bc bs Q := by
  have K := x.1
  refine X12_fewest_e (X12_fewest_0 ?_)
  suffices hk : ex_G mX12_fewest d 4 [.ref 168, .int (nI (bst (fun k => (D k).1) 1)), .int (nI 1)] [] h bc bs Q by
    rw [bst_1] at hk
    exact hk
  refine lpf 1 c (fun _ (_ : Unit) => True) (fun j _ => ex_G mX12_fewest d 4 [.ref 168, .int (nI (bst (fun k => (D k).1) j)), .int (nI j)] [] h bc bs Q) (s := ()) (by omega) trivial ?_ ?_
  · rintro j - j0 hj - next
    have nx := next () trivial
    obtain ⟨t, rfl⟩ : ∃ t, j = t + 1 := ⟨j - 1, by omega⟩
    have lt := bst_lt (fun k => (D k).1) t
    have y := (x.2.2.2.2.2.2 (t + 1) hj).1.1
    have z := (x.2.2.2.2.2.2 (bst (fun k => (D k).1) (t + 1)) (by omega)).1.1
    have i1 := gs (t + 1) hj
    have i2 := gs (bst (fun k => (D k).1) (t + 1)) (by omega)
    have e1 : (264 : Int32) + nI (t + 1) = nI (264 + (t + 1)) := nI_add 264 (t + 1)
    have e2 : (264 : Int32) + nI (bst (fun k => (D k).1) (t + 1)) = nI (264 + bst (fun k => (D k).1) (t + 1)) := nI_add 264 _
    refine X12_fewest_4 ⟨o168 K, fun w => ?_, fun _ => ⟨170, r168_2 K, ?_⟩⟩
    · rw [x.2.2.1, nI_leI (by omega) (by omega)] at w
      omega
    · rw [e1, e2, nI_clamp (by omega), nI_clamp (by omega), y, z, nI_leI (by omega) (by omega)]
      refine ⟨(s170 K _).mpr ((ix_nI (by omega)).mpr (by omega)), (s170 K _).mpr ((ix_nI (by omega)).mpr (by omega)), fun le x11 e11 => ?_, fun gt x12 e12 => ?_⟩
      · rw [e11, show nI (t + 1) + 1 = nI (t + 1 + 1) from nI_add (t + 1) 1]
        have eb : bst (fun k => (D k).1) (t + 1 + 1) = bst (fun k => (D k).1) (t + 1) := if_neg (by show ¬ (D (t + 1)).1 < (D (bst (fun k => (D k).1) (t + 1))).1; omega)
        rw [eb] at nx
        exact nx
      · rw [e12, show nI (t + 1) + 1 = nI (t + 1 + 1) from nI_add (t + 1) 1]
        have eb : bst (fun k => (D k).1) (t + 1 + 1) = t + 1 := if_pos (by show (D (t + 1)).1 < (D (bst (fun k => (D k).1) (t + 1))).1; omega)
        rw [eb] at nx
        exact nx
  · rintro - -
    refine X12_fewest_4 ⟨o168 K, fun _ => kk, fun w => absurd ?_ w⟩
    rw [x.2.2.1]
    exact (nI_leI (by omega) (by omega)).mpr (Nat.le_refl _)
theorem c_reverse {b L cap : Nat} (o : ah_o h b 6) (r : ah_r h b 0 = some (b + 1)) (ax : ah_x h (b + 1) 0 cap) (hc : cap < 100000) (hb : b + 1 < 10000000) (hL : L ≤ cap) (hn : ah_f h b 1 = nI L) (k : ∀ h', fr [b + 1] h h' → (∀ j, j < L → ah_i h' (b + 1) j = ah_i h (b + 1) (L - 1 - j)) → Q none h') : ex_S yX6_reverse mX6_reverse d [.ref b] h bc bs Q := by
  refine X6_reverse_e (X6_reverse_0 ?_)
  have nb : b ∉ [b + 1] := (by simp only [List.mem_cons, List.not_mem_nil, or_false, true_or, or_true, not_true_eq_false] <;> omega)
  have mb : b + 1 ∈ [b + 1] := (by simp only [List.mem_cons, List.not_mem_nil, or_false, true_or, or_true, not_true_eq_false] <;> omega)
  have e2 : nI L / 2 = nI (L / 2) := pk_div (d := 2) (by omega) (by omega) (by omega)
  have fo : ∀ {h' : AH}, fr [b + 1] h h' → ah_o h' b 6 ∧ ah_r h' b 0 = some (b + 1) ∧ ah_x h' (b + 1) 0 cap ∧ ah_f h' b 1 = nI L := fun F => ⟨⟨by rw [F.1.1]; exact o.1, by rw [F.1.2.1]; exact o.2⟩, by rw [F.1.2.2.1]; exact r, ⟨by rw [F.1.1]; exact ax.1, by rw [F.1.2.1]; exact ax.2⟩, by rw [fr_f F b nb]; exact hn⟩
  refine lp (L / 2) (fun i h' => fr [b + 1] h h' ∧ ∀ j, j < L → ah_i h' (b + 1) j = if j < i ∨ L ≤ j + i then ah_i h (b + 1) (L - 1 - j) else ah_i h (b + 1) j) (fun i h' => ex_G mX6_reverse d 2 [.ref b, .int (nI i), .retAddr 0] [] h' bc bs Q) ⟨fr_refl _ h, fun j hj => by rw [if_neg (by omega)]⟩ ?_ ?_
  · rintro i h' hi ⟨F, I⟩ next
    obtain ⟨o', r', ax', f'⟩ := fo F
    have e3 : nI L - 1 - nI i = nI (L - 1 - i) := by
      rw [show nI L - 1 = nI (L - 1) from pk_sub (a := L) (b := 1) (by omega)]
      exact pk_sub (by omega)
    refine X6_reverse_2 ⟨o', ?_⟩
    rw [f', e2, e3, nI_clamp (by omega), nI_clamp (by omega), nI_leI (by omega) (by omega)]
    refine ⟨fun w => absurd w (by omega), fun _ => ⟨b + 1, r', (ld0_x ax' _ hb).mpr ((ix_nI (by omega)).mpr (by omega)), fun x5 e5 => ⟨(ld0_x ax' _ hb).mpr ((ix_nI (by omega)).mpr (by omega)), (st0_x ax' _).mpr ((ix_nI (by omega)).mpr (by omega)), fun h7 e7 => ?_⟩⟩⟩
    have F7 : fr [b + 1] h' h7 := by rw [e7]; exact fr_si (fr_refl _ h') mb
    have i7 : ah_i h7 (b + 1) = u1 (ah_i h' (b + 1)) i (ah_i h' (b + 1) (L - 1 - i)) := by rw [e7, i_si_s]
    clear e7
    obtain ⟨o7, r7, ax7, f7⟩ := fo (fr_trans F F7)
    rw [f7, e3, nI_clamp (by omega)]
    refine ⟨(st0_x ax7 _).mpr ((ix_nI (by omega)).mpr (by omega)), fun h9 e9 x11 e11 => ?_⟩
    have F9 : fr [b + 1] h7 h9 := by rw [e9]; exact fr_si (fr_refl _ h7) mb
    have i9 : ah_i h9 (b + 1) = u1 (u1 (ah_i h' (b + 1)) i (ah_i h' (b + 1) (L - 1 - i))) (L - 1 - i) (ah_i h' (b + 1) i) := by rw [e9, i_si_s, i7, e5]
    clear e9
    rw [e11, show nI i + 1 = nI (i + 1) from nI_add i 1]
    refine next h9 ⟨fr_trans F (fr_trans F7 F9), fun j hj => ?_⟩
    rw [i9]
    by_cases q : j = L - 1 - i
    · rw [q, u1_s, if_pos (by omega), I i (by omega), if_neg (by omega)]
      congr 1
      omega
    · rw [u1_n _ _ q]
      by_cases q2 : j = i
      · rw [q2, u1_s, if_pos (by omega), I _ (by omega), if_neg (by omega)]
      · rw [u1_n _ _ q2, I j hj]
        by_cases q3 : j < i ∨ L ≤ j + i
        · rw [if_pos q3, if_pos (by omega)]
        · rw [if_neg q3, if_neg (by omega)]
  · rintro h' ⟨F, I⟩
    obtain ⟨o', r', ax', f'⟩ := fo F
    refine X6_reverse_2 ⟨o', ?_⟩
    rw [f', e2, nI_leI (by omega) (by omega)]
    refine ⟨fun _ => k h' F (fun j hj => ?_), fun w => absurd (Nat.le_refl _) w⟩
    rw [I j hj]
    by_cases q : j < L / 2 ∨ L ≤ j + L / 2
    · rw [if_pos q]
    · rw [if_neg q]
      congr 1
      omega
theorem c_tellWays {a L : Nat} {F : Nat → Nat} {V : Nat → Nat} (eF : F = fun k => (D k).2.2.2.1) (eV : V = fun k => (D k).2.2.2.2) (K : sp h) (su : SK h W u c D) (hL : L ≤ a) (ha : a < c) (l2 : chn F a L = 0) (l3 : ∀ i, i < L → 0 < chn F a i ∧ chn F a i < c) (kk : ∀ h', fr [134, 135] h h' → ah_f h' 134 1 = nI L → (∀ j, j < L → ah_i h' 135 j = nI (V (chn F a (L - 1 - j)))) → Q none h') : ex_S yX8_tellWays mX8_tellWays (d + 1) [.ref 125, .int (nI a)] h bc bs Q := by
  have u100 := su.1.1
  have cu_ := su.2.1
  refine X8_tellWays_e (X8_tellWays_0 ⟨o125 K, 134, r125_3 K, o134 K, ⟨o134 K, trivial⟩, fun h5 e5 => ?_⟩)
  have e5' : h5 = ah_sf h 134 1 0 := e5
  have F5 : fr [134, 135] h h5 := by rw [e5']; exact fr_sf (fr_refl _ h) (by decide)
  have f5 : ah_f h5 134 1 = nI 0 := by rw [e5', f_sf_s, u1_s]; rfl
  clear e5 e5'
  refine lp L (fun i h' => fr [134, 135] h h' ∧ ah_f h' 134 1 = nI i ∧ ∀ j, j < i → ah_i h' 135 j = nI (V (chn F a j))) (fun i h' => ex_G mX8_tellWays (d + 1) 11 [.ref 125, .retAddr 0, .int (nI (chn F a i)), .int (nI i)] [] h' bc bs Q) ⟨F5, f5, fun j hj => absurd hj (Nat.not_lt_zero j)⟩ ?_ ?_
  · rintro i h' hi ⟨Fr, f1, I⟩ next
    have K' := sp_fr K Fr
    obtain ⟨p0, pc⟩ := l3 i hi
    obtain ⟨b, y⟩ := su.2.2.2 _ pc
    have y216 := y.2.1.1
    have y' := SKk_fr y Fr (fun j _ => by simp only [List.mem_cons, List.not_mem_nil, or_false]; omega)
    obtain ⟨v5, v6⟩ := y'.2.2.2 p0
    refine X8_tellWays_11 ⟨fun w => absurd ((nI_leI (a := 100) (by omega) (by omega)).mp w) (by omega), fun _ => ⟨fun w => absurd ((nI_leI (b := 0) (by omega) (by omega)).mp w) (by omega), fun _ => ⟨o125 K', 134, r125_3 K', 126, r125_0 K', (s126 K' _).mpr ((ix_nI (by omega)).mpr (by omega)), b, by rw [nI_clamp (by omega)]; exact y'.1, y'.2.1.2.1.2.1, o134 K', ?_⟩⟩⟩
    rw [v6]
    refine c_numadd (b := 134) (cap := 100) (o134 K') (r134_0 K') (sp_x K' 135 (by decide) rfl) (by decide) f1 (by omega) _ (fun h17 F17 g1 g2 => ⟨_, rfl, ?_⟩)
    have F17' : fr [134, 135] h h17 := fr_trans Fr F17
    have K17 := sp_fr K F17'
    have y17 := SKk_fr y F17' (fun j _ => by simp only [List.mem_cons, List.not_mem_nil, or_false]; omega)
    obtain ⟨w5, w6⟩ := y17.2.2.2 p0
    refine ⟨o125 K17, 126, r125_0 K17, (s126 K17 _).mpr ((ix_nI (by omega)).mpr (by omega)), b, by rw [nI_clamp (by omega)]; exact y17.1, y17.2.1.2.1.2.1, fun x25 e25 x26 e26 => ?_⟩
    rw [w5] at e25
    rw [e25, e26, show nI i + 1 = nI (i + 1) from nI_add i 1]
    have nx := next h17 ⟨F17', g1, fun j hj => ?_⟩
    · have ec : chn F a (i + 1) = (D (chn F a i)).2.2.2.1 := by
        show F (chn F a i) = _
        rw [eF]
      rw [ec] at nx
      exact nx
    · rw [show ah_i h17 135 = _ from g2]
      by_cases q : j = i
      · rw [q, u1_s, eV]
      · rw [u1_n _ _ q]
        exact I j (by omega)
  · rintro h' ⟨Fr, f1, I⟩
    have K' := sp_fr K Fr
    have rev : ∀ {Q' : Option Value → AH → Prop}, (∀ h4, Q none h4 → Q' none h4) → ex_S yX6_reverse mX6_reverse d [.ref 134] h' 0 0 Q' := fun w => c_reverse (b := 134) (L := L) (cap := 100) (o134 K') (r134_0 K') (sp_x K' 135 (by decide) rfl) (by decide) (by decide) (by omega) f1 (fun h4 F4 g4 => w h4 (kk h4 (fr_trans Fr (fr_mono F4 (by decide))) (by rw [fr_f F4 134 (by decide)]; exact f1) (fun j hj => by
      rw [show ah_i h4 135 j = _ from g4 j hj]
      exact I _ (by omega))))
    refine X8_tellWays_11 ⟨fun w => absurd ((nI_leI (a := 100) (by omega) (by omega)).mp w) (by omega), fun _ => ⟨fun _ => ⟨o125 K', 134, r125_3 K', o134 K', rev (fun h4 q => ⟨rfl, q⟩)⟩, fun w => absurd ?_ w⟩⟩
    rw [l2]
    exact (nI_leI (a := 0) (b := 0) (by omega) (by omega)).mpr (Nat.le_refl _)
theorem m_waysTo {a L : Nat} {F : Nat → Nat} {V : Nat → Nat} (eF : F = fun k => (D k).2.2.2.1) (eV : V = fun k => (D k).2.2.2.2) (x : MSI h c D cu s e st) (c100 : c ≤ 100) (hL : L ≤ a) (ha : a < c) (l2 : chn F a L = 0) (l3 : ∀ i, i < L → 0 < chn F a i ∧ chn F a i < c) (kk : ∀ h', fr [168, 212] h h' → ah_f h' 168 = u1 (ah_f h 168) 59 (nI L) → (∀ j, j < L → ah_i h' 212 j = nI (V (chn F a (L - 1 - j)))) → Q none h') : ex_S yX12_waysTo mX12_waysTo d [.ref 168, .int (nI a)] h bc bs Q := by
  have K := x.1
  have from_ : ∀ i, i < L → ah_i h 209 (chn F a i) = nI (chn F a (i + 1)) := fun i hi => by
    have := ((x.2.2.2.2.2.2 _ (l3 i hi).2).2.2 (l3 i hi).1).1
    rw [this]
    show _ = nI (F (chn F a i))
    rw [eF]
  have way_ : ∀ i, i < L → ah_i h 210 (chn F a i) = nI (V (chn F a i)) := fun i hi => by
    have := ((x.2.2.2.2.2.2 _ (l3 i hi).2).2.2 (l3 i hi).1).2
    rw [this, eV]
  refine X12_waysTo_e (X12_waysTo_0 ⟨o168 K, fun h2 e2 => ?_⟩)
  have F2 : fr [168, 212] h h2 := by rw [e2]; exact fr_sf (fr_refl _ h) (by decide)
  have f2 : ah_f h2 168 = u1 (ah_f h 168) 59 (nI 0) := by rw [e2, f_sf_s]; rfl
  clear e2
  refine lp L (fun i h' => fr [168, 212] h h' ∧ ah_f h' 168 = u1 (ah_f h 168) 59 (nI i)) (fun i h' => ex_G mX12_waysTo d 7 [.ref 168, .int (nI a), .int (nI (chn F a i)), .retAddr 0] [] h' bc bs Q) ⟨F2, f2⟩ ?_ ?_
  · rintro i h' hi ⟨Fr, f1⟩ next
    have K' := sp_fr K Fr
    obtain ⟨p0, pc⟩ := l3 i hi
    refine X12_waysTo_7 ⟨fun w => absurd ((nI_leI (b := 0) (by omega) (by omega)).mp w) (by omega), fun _ => ⟨o168 K', fun h5 e5 => ?_⟩⟩
    have v59 : ah_f h' 168 59 + 1 = nI (i + 1) := by rw [f1, u1_s]; exact nI_add i 1
    rw [v59] at e5
    have F5 : fr [168, 212] h h5 := by rw [e5]; exact fr_sf Fr (by decide)
    have f5 : ah_f h5 168 = u1 (ah_f h 168) 59 (nI (i + 1)) := by
      rw [e5, f_sf_s, f1]
      funext j
      by_cases q : j = 59
      · rw [q, u1_s, u1_s]
      · rw [u1_n _ _ q, u1_n _ _ q, u1_n _ _ q]
    clear e5
    have K5 := sp_fr K F5
    refine ⟨209, r168_55 K5, (s209 K5 _).mpr ((ix_nI (by omega)).mpr (by omega)), fun x8 e8 => ?_⟩
    rw [nI_clamp (by omega), fr_i F5 209 (by decide), from_ i hi] at e8
    rw [e8]
    exact next h5 ⟨F5, f5⟩
  · rintro h' ⟨Fr, f1⟩
    have K' := sp_fr K Fr
    refine X12_waysTo_7 ⟨fun _ => ⟨o168 K', fun x3 e3 => ?_⟩, fun w => absurd ?_ w⟩
    rotate_left
    · rw [l2]
      exact (nI_leI (a := 0) (b := 0) (by omega) (by omega)).mpr (Nat.le_refl _)
    rw [f1, u1_s] at e3
    rw [e3]
    refine lp L (fun i h3 => fr [212] h' h3 ∧ ∀ j, j < L → L - i ≤ j → ah_i h3 212 j = nI (V (chn F a (L - 1 - j)))) (fun i h3 => ex_G mX12_waysTo d 38 [.ref 168, .retAddr 0, .int (nI (L - i)), .int (nI (chn F a i))] [] h3 bc bs Q) ⟨fr_refl _ h', fun j j1 j2 => by omega⟩ ?_ ?_
    · rintro i h3 hi ⟨F3, I⟩ next
      have K3 := sp_fr K' F3
      obtain ⟨p0, pc⟩ := l3 i hi
      refine X12_waysTo_38 ⟨fun w => absurd ((nI_leI (b := 0) (by omega) (by omega)).mp w) (by omega), fun _ x2 e2 => ⟨o168 K3, 212, r168_58 K3, 210, r168_56 K3, (s210 K3 _).mpr ((ix_nI (by omega)).mpr (by omega)), ?_⟩⟩
      have ex : x2 = nI (L - (i + 1)) := by
        rw [e2]
        show nI (L - i) + (-nI 1) = _
        rw [← Int32.sub_eq_add_neg, show nI (L - i) - nI 1 = nI (L - i - 1) from pk_sub (by omega)]
        congr 1
      rw [ex, nI_clamp (by omega), nI_clamp (by omega)]
      refine ⟨(t212 K3 _).mpr ((ix_nI (by omega)).mpr (by omega)), fun h7 e7 => ?_⟩
      have v210 : ah_i h3 210 (chn F a i) = nI (V (chn F a i)) := by rw [fr_i F3 210 (by decide), fr_i Fr 210 (by decide)]; exact way_ i hi
      have F7 : fr [212] h' h7 := by rw [e7]; exact fr_si F3 (by decide)
      have i7 : ah_i h7 212 = u1 (ah_i h3 212) (L - (i + 1)) (nI (V (chn F a i))) := by rw [e7, i_si_s, v210]
      clear e7
      have K7 := sp_fr K' F7
      refine ⟨209, r168_55 K7, (s209 K7 _).mpr ((ix_nI (by omega)).mpr (by omega)), fun x11 e11 => ?_⟩
      rw [fr_i F7 209 (by decide), fr_i Fr 209 (by decide), from_ i hi] at e11
      rw [e11]
      refine next h7 ⟨F7, fun j j1 j2 => ?_⟩
      rw [i7]
      by_cases q : j = L - (i + 1)
      · rw [q, u1_s]
        congr 3
        omega
      · rw [u1_n _ _ q]
        exact I j j1 (by omega)
    · rintro h3 ⟨F3, I⟩
      refine X12_waysTo_38 ⟨fun _ => kk h3 (fr_trans Fr (fr_mono F3 (by decide))) (by rw [fr_f F3 168 (by decide)]; exact f1) (fun j hj => I j hj (by omega)), fun w => absurd ?_ w⟩
      rw [l2]
      exact (nI_leI (a := 0) (b := 0) (by omega) (by omega)).mpr (Nat.le_refl _)
end SWAYS
