/-! The class's smoothings: tie, untie, smoothFrom. -/
section SMOOTH
variable {h : AH} {d bc bs N : Nat} {Q : Option Value → AH → Prop} {R : Nat → Nat → Prop} {U : Nat → Prop} {F : Nat → Nat} {e f : Nat}
theorem c_tie (K : sp h) (hN : N ≤ 56) (I : FI N R U F) (hG : ∀ x, x < N → ah_i h 33 x = nI (F x)) (he : e < N) (hf : f < N) (ue : U e) (uf : U f)
    (k : ∀ h', fr [33] h h' → ah_i h' 33 = tA (ah_i h 33) F e f → Q (some (.int (nI (tcl F e f)))) h') : ex_S yX9_tie mX9_tie d [.ref 32, .int (nI e), .int (nI f)] h bc bs Q := by
  obtain ⟨a1, a2, a3, a4, a5⟩ := I e he ue
  obtain ⟨b1, b2, b3, b4, b5⟩ := I f hf uf
  refine X9_tie_e (X9_tie_0 ⟨o32 K, 33, r32_0 K, (s33 K _).mpr ((ix_nI (by omega)).mpr (by omega)), ?_⟩)
  rw [nI_clamp (show e < 2 ^ 31 by omega), nI_clamp (show f < 2 ^ 31 by omega), hG e he, nI_clamp (show F e < 2 ^ 31 by omega), nI_eq (by omega) (by omega)]
  refine ⟨fun c => ⟨(s33 K _).mpr ((ix_nI (by omega)).mpr (by omega)), (t33 K _).mpr ((ix_nI (by omega)).mpr (by omega)), fun h6 e6 => ?_⟩, fun c => ?_⟩
  · have F6 : fr [33] h h6 := by rw [e6]; exact fr_si (fr_refl _ h) (by decide)
    have K6 := sp_fr K F6
    have g6 : ah_i h6 33 = u1 (ah_i h 33) (F e) (ah_i h 33 f) := by rw [e6, i_si_s]
    have g6f : ah_i h6 33 f = nI (F f) := by rw [g6, u1_n _ _ (fun q => c q.symm)]; exact hG f hf
    have g6e : ah_i h6 33 e = ah_i h 33 e := by rw [g6, u1_n _ _ (fun q => a3 q.symm)]
    rw [g6f, g6e, nI_clamp (show F f < 2 ^ 31 by omega)]
    refine ⟨(t33 K6 _).mpr ((ix_nI (by omega)).mpr (by omega)), fun h8 e8 => ?_⟩
    have z : tcl F e f = 0 := if_neg c
    have := k h8 (by rw [e8]; exact fr_si F6 (by decide)) (by rw [e8, i_si_s, g6]; unfold tA; rw [if_neg c])
    rw [z] at this
    exact this
  · have z : tcl F e f = 1 := if_pos c
    have := k h (fr_refl _ h) (by unfold tA; rw [if_pos c])
    rw [z] at this
    exact this
theorem c_untie {G : Nat → Int32} (K : sp h) (hN : N ≤ 56) (I : FI N R U F) (E : EQ R N) (hG : ∀ x, x < N → G x = nI (F x)) (he : e < N) (hf : f < N) (ue : U e) (uf : U f) (ne : e ≠ f) (hA : ah_i h 33 = tA G F e f)
    (k : ∀ h', fr [33] h h' → ah_i h' 33 = G → Q none h') : ex_S yX9_untie mX9_untie d [.ref 32, .int (nI e), .int (nI f)] h bc bs Q := by
  obtain ⟨a1, a2, a3, a4, a5⟩ := I e he ue
  obtain ⟨b1, b2, b3, b4, b5⟩ := I f hf uf
  have ffe := FI_ff I E he ue
  have fff := FI_ff I E hf uf
  refine X9_untie_e (X9_untie_0 ⟨o32 K, 33, r32_0 K, (s33 K _).mpr ((ix_nI (by omega)).mpr (by omega)), ?_⟩)
  by_cases c : F e = f
  · have hA' : ah_i h 33 = G := by rw [hA]; unfold tA; rw [if_pos c]
    rw [nI_clamp (show e < 2 ^ 31 by omega), hA', hG e he, nI_eq (by omega) (by omega)]
    exact ⟨fun _ => k h (fr_refl _ h) hA', fun w => absurd c w⟩
  · have fe : F f ≠ e := fun q => c (by rw [← q, fff])
    have fne : F e ≠ F f := fun q => ne (by rw [← ffe, q, fff])
    have hA' : ah_i h 33 = u1 (u1 G (F e) (G f)) (F f) (G e) := by rw [hA]; unfold tA; rw [if_neg c]
    have ge : ah_i h 33 e = nI (F e) := by rw [hA', u1_n _ _ (fun q => fe q.symm), u1_n _ _ (fun q => a3 q.symm)]; exact hG e he
    rw [nI_clamp (show e < 2 ^ 31 by omega), ge, nI_eq (by omega) (by omega), nI_clamp (show F e < 2 ^ 31 by omega)]
    refine ⟨fun w => absurd w c, fun _ => ⟨(t33 K _).mpr ((ix_nI (by omega)).mpr (by omega)), fun h5 e5 => ?_⟩⟩
    have F5 : fr [33] h h5 := by rw [e5]; exact fr_si (fr_refl _ h) (by decide)
    have K5 := sp_fr K F5
    have g5 : ah_i h5 33 = u1 (ah_i h 33) (F e) (nI e) := by rw [e5, i_si_s]
    have g5f : ah_i h5 33 f = nI (F f) := by rw [g5, u1_n _ _ (fun q => c q.symm), hA', u1_n _ _ (fun q => b3 q.symm), u1_n _ _ (fun q => c q.symm)]; exact hG f hf
    rw [nI_clamp (show f < 2 ^ 31 by omega), g5f, nI_clamp (show F f < 2 ^ 31 by omega)]
    refine ⟨(s33 K5 _).mpr ((ix_nI (by omega)).mpr (by omega)), (t33 K5 _).mpr ((ix_nI (by omega)).mpr (by omega)), fun h8 e8 => ?_⟩
    refine k h8 (by rw [e8]; exact fr_si F5 (by decide)) ?_
    rw [e8, i_si_s, g5, hA']
    funext x
    by_cases z1 : x = F f
    · rw [z1, u1_s, hG _ b1, fff]
    · rw [u1_n _ _ z1]
      by_cases z2 : x = F e
      · rw [z2, u1_s, hG _ a1, ffe]
      · rw [u1_n _ _ z2, u1_n _ _ z1, u1_n _ _ z2]
theorem FI_congr {U' : Nat → Prop} (I : FI N R U F) (h : ∀ x, U x ↔ U' x) : FI N R U' F := by
  have : U = U' := funext (fun x => propext (h x))
  rw [← this]
  exact I
def smc : List Nat := 33 :: (List.range 38).map (35 + ·)
theorem smc_row {c : Nat} (hc : c < 38) : 35 + c ∈ smc := List.mem_cons_of_mem _ (List.mem_map.mpr ⟨c, List.mem_range.mpr hc, rfl⟩)
theorem tl_x (K : sp h) {j : Nat} (hj : j < 38) : ah_x h (35 + j) 0 15 := sp_x K (35 + j) (by omega) ((by decide : ∀ j, j < 38 → kd (35 + j) = (0, 15)) j hj)
/-- the tally -/
def tl (M : Nat) (h : AH) (t : Nat → Nat → Nat) : Prop := ∀ c z, c < M → z < 15 → ah_i h (35 + c) z = nI (t c z)
theorem tl_fr {M : Nat} {h' : AH} {t : Nat → Nat → Nat} (x : tl M h t) (F : fr [33] h h') : tl M h' t := fun c z hc hz => by
  rw [fr_i F (35 + c) (by simp only [List.mem_cons, List.not_mem_nil, or_false]; omega)]
  exact x c z hc hz
end SMOOTH
section SMOOTH2
variable {n l : Nat} {A m : Nat → Nat}
theorem c_smoothF (P : Pr n A m) (h14 : n ≤ 14) (h9 : l ≤ 9) (d : Nat) : ∀ (j k w0 : Nat) (h : AH) (F : Nat → Nat) (cl z bc bs : Nat) (t : Nat → Nat → Nat) (Q : Option Value → AH → Prop), k + j = n → w0 < 2 ^ k → sp h → (∀ i, i < 38 → ah_q h 34 i = some (35 + i)) → ah_f h 32 2 = nI n → FI (4 * n) (RR n m w0 k) (fun x => 4 * k ≤ x) F → (∀ x, x < 4 * n → ah_i h 33 x = nI (F x)) → ct (lm (RR n m w0 k)) (4 * n) + 2 * k = 2 * n + cl → ct (fun i => bt w0 i = 0) k = z → tl (2 * n + l + 1) h t → (∀ h', fr smc h h' → ah_i h' 33 = ah_i h 33 → tl (2 * n + l + 1) h' (fun c z => t c z + ct (fun u => cy n m (w0 + 2 ^ k * u) + l = c ∧ zr n (w0 + 2 ^ k * u) = z) (2 ^ j)) → Q none h') → ex_S yX9_smoothFrom mX9_smoothFrom (d + j + 1) [.ref 32, .int (nI k), .int (nI z), .int (nI (l + cl))] h bc bs Q := by
  intro j
  induction j with
  | zero =>
    intro k w0 h F cl z bc bs t Q hk hw K hq hn I hG hc hz ht kk
    have kn : k = n := by omega
    subst kn
    have ecl : cl = cy k m w0 := by unfold cy; omega
    have cle := cy_le (w := w0) P
    have zn : z ≤ k := by rw [← hz]; exact ct_le _ _
    refine X9_smoothFrom_e (X9_smoothFrom_0 ⟨o32 K, fun w => ?_, fun _ => ⟨fun w => ?_, fun _ => ⟨fun w => ?_, fun _ => ⟨fun w => ?_, fun _ => ⟨34, r32_1 K, (s34 K _).mpr ((ix_nI (by omega)).mpr (by omega)), 35 + (l + cl), by rw [nI_clamp (by omega)]; exact hq _ (by omega), (ld0_x (tl_x K (by omega)) _ (by omega)).mpr ((ix_nI (by omega)).mpr (by omega)), (st0_x (tl_x K (by omega)) _).mpr ((ix_nI (by omega)).mpr (by omega)), fun h36 e36 => ?_⟩⟩⟩⟩⟩)
    · rw [hn, nI_ltI (by omega) (by omega)] at w
      omega
    · have : ¬ nI (l + cl) < 0 := by rw [show (0 : Int32) = nI 0 from rfl, nI_ltI (by omega) (by omega)]; omega
      exact absurd w this
    · have c37 : (37 : Int32) < nI (l + cl) ↔ 37 < l + cl := nI_ltI (a := 37) (by omega) (by omega)
      have := c37.mp w
      omega
    · have c14 : (14 : Int32) < nI z ↔ 14 < z := nI_ltI (a := 14) (by omega) (by omega)
      have := c14.mp w
      omega
    · rw [nI_clamp (by omega)] at e36
      refine kk h36 (by rw [e36]; exact fr_si (fr_refl _ h) (smc_row (by omega))) (by rw [e36, i_si_n _ _ _ _ _ (by omega)]) (fun c z' hc' hz' => ?_)
      have e0 : w0 + 2 ^ k * 0 = w0 := by omega
      have one : ct (fun u => cy k m (w0 + 2 ^ k * u) + l = c ∧ zr k (w0 + 2 ^ k * u) = z') (2 ^ 0) = if c = l + cl ∧ z' = z then 1 else 0 := by
        by_cases q : c = l + cl ∧ z' = z
        · rw [if_pos q]
          exact ct_y (p := fun u => cy k m (w0 + 2 ^ k * u) + l = c ∧ zr k (w0 + 2 ^ k * u) = z') (n := 0) (by rw [e0]; exact ⟨by omega, by unfold zr; omega⟩)
        · rw [if_neg q]
          exact ct_n (p := fun u => cy k m (w0 + 2 ^ k * u) + l = c ∧ zr k (w0 + 2 ^ k * u) = z') (n := 0) (by rw [e0]; exact fun q' => q ⟨by omega, by have := q'.2; unfold zr at this; omega⟩)
      show ah_i h36 (35 + c) z' = nI (t c z' + _)
      rw [one, e36]
      by_cases q1 : c = l + cl
      · rw [q1, i_si_s]
        by_cases q2 : z' = z
        · rw [if_pos ⟨rfl, q2⟩, q2, u1_s, ht _ _ (by omega) (by omega)]
          exact nI_add _ 1
        · rw [if_neg (fun q => q2 q.2), u1_n _ _ q2, ht _ _ (by omega) hz']
          rfl
      · rw [if_neg (fun q => q1 q.1), i_si_n _ _ _ _ _ (by omega), ht _ _ hc' hz']
        rfl
  | succ j ih =>
    intro k w0 h F cl z bc bs t Q hk hw K hq hn I hG hc hz ht kk
    have kn : k < n := by omega
    have E := RR_EQ P w0 k (by omega)
    have N56 : 4 * n ≤ 56 := by omega
    have s33_ : ∀ a, a ∈ [33] → a ∈ smc := by decide
    have e31 : nI (4 * k) + 1 = nI (4 * k + 1) := nI_add _ 1
    have e32 : nI (4 * k) + 2 = nI (4 * k + 2) := nI_add _ 2
    have e33 : nI (4 * k) + 3 = nI (4 * k + 3) := nI_add _ 3
    have ek1 : nI k + 1 = nI (k + 1) := nI_add _ 1
    have ez1 : nI z + 1 = nI (z + 1) := nI_add _ 1
    refine X9_smoothFrom_e (X9_smoothFrom_0 ⟨o32 K, fun _ x3 e3 => ?_, fun w => absurd (by rw [hn, nI_ltI (by omega) (by omega)]; exact kn) w⟩)
    have e3' : x3 = nI (4 * k) := by rw [e3]; exact pk_mul 4 k
    clear e3
    subst e3'
    rw [e31, e32, e33, ek1, ez1]
    -- first: 0-1, 2-3
    have T1 := FI_tie I E (e := 4 * k) (f := 4 * k + 1) (by omega) (by omega) (by omega) (by omega) (by omega)
    have E1 := jo_EQ E (u := 4 * k) (v := 4 * k + 1) (by omega) (by omega)
    refine c_tie K N56 I hG (by omega) (by omega) (by omega) (by omega) (fun h4 F4 g4 => ⟨_, rfl, o32 (sp_fr K F4), ?_⟩)
    have K4 := sp_fr K F4
    have hG4 : ∀ x, x < 4 * n → ah_i h4 33 x = nI (tF F (4 * k) (4 * k + 1) x) := fun x hx => by rw [g4]; exact tA_F hG (by omega) (by omega) hx
    have T2 := FI_tie T1.1 E1 (e := 4 * k + 2) (f := 4 * k + 3) (by omega) (by omega) (by omega) (by omega) (by omega)
    refine c_tie K4 N56 T1.1 hG4 (by omega) (by omega) (by omega) (by omega) (fun h6 F6 g6 => ⟨_, rfl, fun x9 e9 => ⟨o32 (sp_fr K4 F6), ?_⟩⟩)
    have K6 := sp_fr K4 F6
    have hG6 : ∀ x, x < 4 * n → ah_i h6 33 x = nI (tF (tF F (4 * k) (4 * k + 1)) (4 * k + 2) (4 * k + 3) x) := fun x hx => by rw [g6]; exact tA_F hG4 (by omega) (by omega) hx
    have R1 : RR n m w0 (k + 1) = jo (jo (RR n m w0 k) (4 * k) (4 * k + 1)) (4 * k + 2) (4 * k + 3) := by rw [RR_s, t2_0 (bt_lo hw)]
    have ex9 : nI (l + cl) + x9 = nI (l + (cl + tcl F (4 * k) (4 * k + 1) + tcl (tF F (4 * k) (4 * k + 1)) (4 * k + 2) (4 * k + 3))) := by
      rw [e9, nI_add, nI_add]
      congr 1
      omega
    rw [ex9]
    have F6' := fr_trans F4 F6
    refine ih (k + 1) w0 h6 _ _ (z + 1) 0 0 t _ (by omega) (by rw [Nat.pow_succ]; omega) K6 (by rw [F6'.1.2.2.2]; exact hq) (by rw [fr_f F6' 32 (by decide)]; exact hn) (by rw [R1]; exact FI_congr T2.1 (fun x => by omega)) hG6 (by rw [R1]; have := T1.2; have := T2.2; omega) (by rw [ct_y (p := fun i => bt w0 i = 0) (bt_lo hw), hz]) (tl_fr (tl_fr ht F4) F6) (fun h10 F10 g10 t10 => ⟨rfl, ?_⟩)
    have K10 := sp_fr K6 F10
    refine ⟨o32 K10, c_untie K10 N56 T1.1 E1 hG4 (by omega) (by omega) (by omega) (by omega) (by omega) (by rw [g10, g6]) (fun h12 F12 g12 => ⟨rfl, ?_⟩)⟩
    have K12 := sp_fr K10 F12
    refine ⟨o32 K12, c_untie K12 N56 I E hG (by omega) (by omega) (by omega) (by omega) (by omega) (by rw [g12, g4]) (fun h14 F14 g14 => ⟨rfl, ?_⟩)⟩
    have K14 := sp_fr K12 F14
    have FF : fr smc h h14 := fr_trans (fr_mono F6' s33_) (fr_trans F10 (fr_mono (fr_trans F12 F14) s33_))
    have t14 := tl_fr (tl_fr t10 F12) F14
    have hG14 : ∀ x, x < 4 * n → ah_i h14 33 x = nI (F x) := fun x hx => by rw [g14]; exact hG x hx
    clear T2 T1 E1 hG4 hG6 R1 ex9 e9 F4 g4 F6 g6 F10 g10 t10 F12 g12 F14 K4 K6 K10 K12 F6'
    -- second: 0-3, 1-2
    have T1 := FI_tie I E (e := 4 * k) (f := 4 * k + 3) (by omega) (by omega) (by omega) (by omega) (by omega)
    have E1 := jo_EQ E (u := 4 * k) (v := 4 * k + 3) (by omega) (by omega)
    refine ⟨o32 K14, c_tie K14 N56 I hG14 (by omega) (by omega) (by omega) (by omega) (fun h16 F4 g4 => ⟨_, rfl, o32 (sp_fr K14 F4), ?_⟩)⟩
    have K4 := sp_fr K14 F4
    have hG4 : ∀ x, x < 4 * n → ah_i h16 33 x = nI (tF F (4 * k) (4 * k + 3) x) := fun x hx => by rw [g4]; exact tA_F hG14 (by omega) (by omega) hx
    have T2 := FI_tie T1.1 E1 (e := 4 * k + 1) (f := 4 * k + 2) (by omega) (by omega) (by omega) (by omega) (by omega)
    refine c_tie K4 N56 T1.1 hG4 (by omega) (by omega) (by omega) (by omega) (fun h19 F6 g6 => ⟨_, rfl, fun x9 e9 => ⟨o32 (sp_fr K4 F6), ?_⟩⟩)
    have K6 := sp_fr K4 F6
    have hG6 : ∀ x, x < 4 * n → ah_i h19 33 x = nI (tF (tF F (4 * k) (4 * k + 3)) (4 * k + 1) (4 * k + 2) x) := fun x hx => by rw [g6]; exact tA_F hG4 (by omega) (by omega) hx
    have bits : ∀ i, i < k → bt (w0 + 2 ^ k) i = bt w0 i := fun i hi => bt_keep hi
    have b1 : ¬ bt (w0 + 2 ^ k) k = 0 := by rw [bt_add hw]; decide
    have R1 : RR n m (w0 + 2 ^ k) (k + 1) = jo (jo (RR n m w0 k) (4 * k) (4 * k + 3)) (4 * k + 1) (4 * k + 2) := by rw [RR_s, t2_1 b1, RR_congr bits]
    have ex9 : nI (l + cl) + x9 = nI (l + (cl + tcl F (4 * k) (4 * k + 3) + tcl (tF F (4 * k) (4 * k + 3)) (4 * k + 1) (4 * k + 2))) := by
      rw [e9, nI_add, nI_add]
      congr 1
      omega
    rw [ex9]
    have F6' := fr_trans F4 F6
    refine ih (k + 1) (w0 + 2 ^ k) h19 _ _ z 0 0 _ _ (by omega) (by rw [Nat.pow_succ]; omega) K6 (by rw [F6'.1.2.2.2, FF.1.2.2.2]; exact hq) (by rw [fr_f F6' 32 (by decide), fr_f FF 32 (by decide)]; exact hn) (by rw [R1]; exact FI_congr T2.1 (fun x => by omega)) hG6 (by rw [R1]; have := T1.2; have := T2.2; omega) (by rw [ct_n (p := fun i => bt (w0 + 2 ^ k) i = 0) b1, ← hz]; exact ct_congr (fun i hi => by rw [bits i hi])) (tl_fr (tl_fr t14 F4) F6) (fun h23 F10 g10 t10 => ⟨rfl, ?_⟩)
    have K10 := sp_fr K6 F10
    refine ⟨o32 K10, c_untie K10 N56 T1.1 E1 hG4 (by omega) (by omega) (by omega) (by omega) (by omega) (by rw [g10, g6]) (fun h25 F12 g12 => ⟨rfl, ?_⟩)⟩
    have K12 := sp_fr K10 F12
    refine ⟨o32 K12, c_untie K12 N56 I E hG14 (by omega) (by omega) (by omega) (by omega) (by omega) (by rw [g12, g4]) (fun h27 F14 g27 => ⟨rfl, ?_⟩)⟩
    refine kk h27 (fr_trans FF (fr_trans (fr_mono F6' s33_) (fr_trans F10 (fr_mono (fr_trans F12 F14) s33_)))) (by rw [g27, g14]) (fun c z' hc' hz' => ?_)
    rw [tl_fr (tl_fr t10 F12) F14 c z' hc' hz']
    have sp_ := ct_split (p := fun w => cy n m w + l = c ∧ zr n w = z') w0 k j
    show nI (t c z' + ct _ _ + ct _ _) = nI (t c z' + ct (fun u => cy n m (w0 + 2 ^ k * u) + l = c ∧ zr n (w0 + 2 ^ k * u) = z') (2 ^ (j + 1)))
    rw [sp_, Nat.add_assoc]
end SMOOTH2
