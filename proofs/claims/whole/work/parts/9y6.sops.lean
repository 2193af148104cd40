/-! The class's search: State, seemsOpen. -/
/-- a State -/
def so (h : AH) (a : Nat) : Prop := a + 3 ≤ 10000000 ∧ ah_o h a 10 ∧ ah_r h a 0 = some (a + 1) ∧ ah_r h a 1 = some (a + 2) ∧ ah_x h (a + 1) 0 48 ∧ ah_x h (a + 2) 0 48
def sD (h : AH) (a n l : Nat) (A : Nat → Nat) : Prop := ah_f h a 2 = nI n ∧ ah_f h a 3 = nI l ∧ ah_f h a 4 = mk n (mt n A) (4 * n) ∧ (∀ e, e < 4 * n → ah_i h (a + 1) e = nI (A e)) ∧ ∀ e, e < 4 * n → ah_i h (a + 2) e = nI (mt n A e)
theorem so_fr {L : List Nat} {h h' : AH} {a : Nat} (S : so h a) (F : fr L h h') : so h' a := by
  obtain ⟨⟨f1, f2, f3, f4⟩, -⟩ := F
  unfold so ah_o ah_x at *
  rw [f1, f2, f3]
  exact S
theorem so_eq {h h' : AH} {a : Nat} (S : so h a) (e0 : eqc h h' a) (e1 : eqc h h' (a + 1)) (e2 : eqc h h' (a + 2)) (hn : ah_n h ≤ ah_n h') : so h' a := ⟨S.1, ah_o_eq S.2.1 e0 hn, by rw [e0.2.2.2.2.1]; exact S.2.2.1, by rw [e0.2.2.2.2.1]; exact S.2.2.2.1, ah_x_eq S.2.2.2.2.1 e1 hn, ah_x_eq S.2.2.2.2.2 e2 hn⟩
theorem sD_eq {h h' : AH} {a n l : Nat} {A : Nat → Nat} (S : sD h a n l A) (e0 : ah_f h' a = ah_f h a) (e1 : ah_i h' (a + 1) = ah_i h (a + 1)) (e2 : ah_i h' (a + 2) = ah_i h (a + 2)) : sD h' a n l A := by
  unfold sD
  rw [e0, e1, e2]
  exact S
section SOPS
variable {h h1 : AH} {d bc bs : Nat} {Q : Option Value → AH → Prop} {a b lb n l : Nat} {A m : Nat → Nat}
theorem lk142 (K : sp h) : lk h 142 := ⟨by decide, o142 K, fun k hk => by
  have : ∀ k, k < 10 → (142, k, 142 + 1 + k) ∈ R0L := by decide
  exact K.2.2 _ (this k hk), fun k hk => by
  have : ∀ k, k < 6 → 142 + 1 + k < 216 ∧ kd (142 + 1 + k) = (0, 160) := by decide
  exact sp_x K _ (this k hk).1 (this k hk).2, fun k hk => by
  have : ∀ k, k < 3 → 142 + 7 + k < 216 ∧ kd (142 + 7 + k) = (0, 40) := by decide
  exact sp_x K _ (this k hk).1 (this k hk).2, sp_x K 152 (by decide) rfl⟩
theorem lk153 (K : sp h) : lk h 153 := ⟨by decide, o153 K, fun k hk => by
  have : ∀ k, k < 10 → (153, k, 153 + 1 + k) ∈ R0L := by decide
  exact K.2.2 _ (this k hk), fun k hk => by
  have : ∀ k, k < 6 → 153 + 1 + k < 216 ∧ kd (153 + 1 + k) = (0, 160) := by decide
  exact sp_x K _ (this k hk).1 (this k hk).2, fun k hk => by
  have : ∀ k, k < 3 → 153 + 7 + k < 216 ∧ kd (153 + 7 + k) = (0, 40) := by decide
  exact sp_x K _ (this k hk).1 (this k hk).2, sp_x K 163 (by decide) rfl⟩
theorem pt136 (K : sp h) : pt h 136 := ⟨by decide, o136 K, r136_0 K, r136_1 K, sp_x K 137 (by decide) rfl, sp_x K 138 (by decide) rfl⟩
theorem pt139 (K : sp h) : pt h 139 := ⟨by decide, o139 K, r139_0 K, r139_1 K, sp_x K 140 (by decide) rfl, sp_x K 141 (by decide) rfl⟩
theorem so127 (K : sp h) : so h 127 := ⟨by decide, o127 K, r127_0 K, r127_1 K, sp_x K 128 (by decide) rfl, sp_x K 129 (by decide) rfl⟩
theorem c_seems {w : Int32} (X : DC h b lb n l A m) (k1 : Q (some (.int 1)) h) (k0 : (∀ f n' l' A', stp w n l A m f n' l' A' → f ≠ 0) → Q (some (.int 0)) h) : ex_S yX5_seemsOpen mX5_seemsOpen (d + 3) [.ref lb, .int w] h bc bs Q := by
  refine X5_seemsOpen_e (X5_seemsOpen_0 (fun x1 e1 => ?_))
  subst e1
  refine ⟨fun q => ?_, fun q => ?_, fun q q1 => ?_⟩
  · have bk : bo (X5_isKink_V lb (w / 3) h) := by
      unfold X5_isKink_V bo
      split
      · exact Or.inl rfl
      · split
        · exact Or.inr rfl
        · exact Or.inl rfl
    refine ⟨kinkC X _, bk, ?_⟩
    rcases bk with z | z
    · rw [z]
      refine k0 (fun f n' l' A' M => ?_)
      have no := (kinkV X (w / 3)).mp z
      rcases M with ⟨-, M⟩ | ⟨n1, -⟩ | ⟨n1, -⟩
      · rcases M with ⟨-, e⟩ | ⟨e, e1, e2, e3, -⟩
        · omega
        · exact absurd ⟨e, e1, e2, e3⟩ no
      · exact absurd q n1
      · exact absurd q n1
    · rw [z]; exact k1
  · have bk : bo (X5_isLens_V lb (w / 3) h) := by
      unfold X5_isLens_V bo
      split
      · exact Or.inl rfl
      · split
        · split
          · exact Or.inl rfl
          · split
            · exact Or.inr rfl
            · exact Or.inl rfl
        · exact Or.inl rfl
    refine ⟨lensC X _, bk, ?_⟩
    rcases bk with z | z
    · rw [z]
      refine k0 (fun f n' l' A' M => ?_)
      have no := (lensV X (w / 3)).mp z
      rcases M with ⟨n1, -⟩ | ⟨-, -, M⟩ | ⟨-, n1, -⟩
      · rw [n1] at q; exact absurd q (by decide)
      · rcases M with ⟨-, e⟩ | ⟨e, e1, e2, e3, -⟩
        · omega
        · exact absurd ⟨e, e1, e2, e3⟩ no
      · exact absurd q n1
    · rw [z]; exact k1
  · obtain ⟨P, L, sep, D, hn, hm, h40, h9, R⟩ := X
    refine c_isTriangle L hn hm h40 (fun e he => R.lt he) (w / 3) (fun T => ⟨_, rfl, Or.inr rfl, k1⟩) (fun T => ⟨_, rfl, Or.inl rfl, k0 (fun f n' l' A' M => ?_)⟩)
    rcases M with ⟨n1, -⟩ | ⟨-, n1, -⟩ | ⟨-, -, M⟩
    · exact absurd n1 q
    · exact absurd n1 q1
    · rcases M with ⟨-, e⟩ | ⟨x, y, z, e1, -⟩
      · omega
      · exact absurd ⟨x, y, z, e1⟩ T
theorem apd_self (A : Nat → Nat) (n : Nat) {e : Nat} (he : e < 4 * (n + 1)) : apd n A (A (4 * n)) (A (4 * n + 1)) (A (4 * n + 2)) (A (4 * n + 3)) e = A e := by
  unfold apd
  by_cases q : e < 4 * n
  · rw [if_pos q]
  · rw [if_neg q]
    by_cases q0 : e = 4 * n
    · rw [if_pos q0, q0]
    · rw [if_neg q0]
      by_cases q1 : e = 4 * n + 1
      · rw [if_pos q1, q1]
      · rw [if_neg q1]
        by_cases q2 : e = 4 * n + 2
        · rw [if_pos q2, q2]
        · rw [if_neg q2]
          congr 1
          omega
theorem c_pour (S : so h a) (P : pt h b) (sep : a + 3 ≤ b ∨ b + 3 ≤ a) (h12 : n ≤ 12) (s2 : ah_f h a 2 = nI n) (s3 : ah_f h a 3 = nI l) (sA : ∀ e, e < 4 * n → ah_i h (a + 1) e = nI (A e)) (k : ∀ h', fr [b, b + 1, b + 2] h h' → cD h' b n l A → Q none h') : ex_S yX10_pourInto mX10_pourInto (d + 2) [.ref a, .ref b] h bc bs Q := by
  refine X10_pourInto_e (X10_pourInto_0 ⟨pt_o P, c_empty P (fun h1 F1 g1 g2 g3 => ⟨rfl, (so_fr S F1).2.1, pt_o (pt_fr P F1), fun h5 e5 => ?_⟩)⟩)
  have m0 : b ∈ [b, b + 1, b + 2] := (by simp only [List.mem_cons, List.not_mem_nil, or_false, true_or, or_true, not_true_eq_false] <;> omega)
  have na : ∀ j, j < 3 → a + j ∉ [b, b + 1, b + 2] := fun j hj => by
    simp only [List.mem_cons, List.not_mem_nil, or_false]
    omega
  have F5 : fr [b, b + 1, b + 2] h h5 := by rw [e5]; exact fr_sf F1 m0
  have D5 : cD h5 b 0 l A := by
    refine ⟨?_, ?_, fun c hc => absurd hc (Nat.not_lt_zero c), fun e he => absurd he (by omega)⟩
    · rw [e5, f_sf_s, u1_n _ _ (by decide), g1, u1_n _ _ (by decide), u1_s]
    · rw [e5, f_sf_s, u1_s, fr_f F1 a (na 0 (by omega))]; exact s3
  clear e5
  have x1 : ah_x h (a + 1) 0 48 := S.2.2.2.2.1
  refine lp n (fun j h' => fr [b, b + 1, b + 2] h h' ∧ cD h' b j l A) (fun j h' => ex_G mX10_pourInto (d + 2) 14 [.ref a, .ref b, .int (nI j)] [] h' bc bs Q) ⟨F5, D5⟩ ?_ ?_
  · rintro j h' hj ⟨F, Dj⟩ next
    have S' := so_fr S F
    have f2 : ah_f h' a 2 = nI n := by rw [fr_f F a (na 0 (by omega))]; exact s2
    have iA : ∀ e, e < 4 * n → ah_i h' (a + 1) e = nI (A e) := fun e he => by rw [fr_i F (a + 1) (na 1 (by omega))]; exact sA e he
    have e0 : (4 : Int32) * nI j = nI (4 * j) := pk_mul 4 j
    have e1 : nI (4 * j) + 1 = nI (4 * j + 1) := nI_add (4 * j) 1
    have e2 : nI (4 * j) + 2 = nI (4 * j + 2) := nI_add (4 * j) 2
    have e3 : nI (4 * j) + 3 = nI (4 * j + 3) := nI_add (4 * j) 3
    refine X10_pourInto_14 ⟨S'.2.1, fun w => ?_, fun _ => ⟨a + 1, S'.2.2.1, ?_⟩⟩
    · rw [f2, nI_leI (by omega) (by omega)] at w
      omega
    · have ld : ∀ i, i < 4 → ld0 h' (a + 1) (nI (4 * j + i)) := fun i hi => (ld0_x S'.2.2.2.2.1 _ (by have := S.1; omega)).mpr ((ix_nI (by omega)).mpr (by omega))
      rw [e0, e1, e2, e3, nI_clamp (by omega), nI_clamp (by omega), nI_clamp (by omega), nI_clamp (by omega), iA _ (by omega), iA _ (by omega), iA _ (by omega), iA _ (by omega)]
      refine ⟨ld 0 (by omega), ld 1 (by omega), ld 2 (by omega), ld 3 (by omega), pt_o (pt_fr P F), c_addD (pt_fr P F) Dj (by omega) (fun h8 F8 D8 => ⟨rfl, fun x10 e10 => ?_⟩)⟩
      have e : x10 = nI (j + 1) := by rw [e10]; exact nI_add j 1
      rw [e]
      exact next h8 ⟨fr_trans F F8, D8.1, D8.2.1, D8.2.2.1, fun e he => by rw [D8.2.2.2 e he, apd_self A j he]⟩
  · rintro h' ⟨F, Dj⟩
    have f2 : ah_f h' a 2 = nI n := by rw [fr_f F a (na 0 (by omega))]; exact s2
    refine X10_pourInto_14 ⟨(so_fr S F).2.1, fun _ => k h' F Dj, fun w => absurd ?_ w⟩
    rw [f2]
    exact (nI_leI (by omega) (by omega)).mpr (Nat.le_refl _)
theorem c_hold (S : so h a) (P : pt h b) (L : lk h lb) (sab : a + 3 ≤ b ∨ b + 3 ≤ a) (sal : a + 3 ≤ lb ∨ lb + 11 ≤ a) (h12 : n ≤ 12) (p2 : ah_f h b 2 = nI n) (p3 : ah_f h b 3 = nI l) (pA : ∀ e, e < 4 * n → ah_i h (b + 2) e = nI (A e)) (hn : ah_f h lb 10 = nI n) (hm : ∀ e, e < 4 * n → ah_i h (lb + 1) e = nI (mt n A e)) (R : Pr n A (mt n A)) (rg : RG n (mt n A) (ah_i h (lb + 2)) (ah_i h (lb + 3))) (hb : lb + 11 < 10000000) (k : ∀ h', fr [a, a + 1, a + 2] h h' → sD h' a n l A → Q none h') : ex_S yX10_hold mX10_hold (d + 1) [.ref a, .ref b, .ref lb] h bc bs Q := by
  have m0 : a ∈ [a, a + 1, a + 2] := (by simp only [List.mem_cons, List.not_mem_nil, or_false, true_or, or_true, not_true_eq_false] <;> omega)
  have m1_ : a + 1 ∈ [a, a + 1, a + 2] := (by simp only [List.mem_cons, List.not_mem_nil, or_false, true_or, or_true, not_true_eq_false] <;> omega)
  have m2 : a + 2 ∈ [a, a + 1, a + 2] := (by simp only [List.mem_cons, List.not_mem_nil, or_false, true_or, or_true, not_true_eq_false] <;> omega)
  have nm : ∀ j, j < a ∨ a + 3 ≤ j → j ∉ [a, a + 1, a + 2] := fun j hj => by
    simp only [List.mem_cons, List.not_mem_nil, or_false]
    omega
  refine X10_hold_e (X10_hold_0 ⟨pt_o P, S.2.1, fun h3 e3 h4 e4 => ?_⟩)
  have F4 : fr [a, a + 1, a + 2] h h4 := by rw [e4, e3]; exact fr_sf (fr_sf (fr_refl _ h) m0) m0
  have g2 : ah_f h4 a 2 = nI n := by
    rw [e4, f_sf_s, u1_n _ _ (by decide), e3, f_sf_s, u1_s, p2]
    exact (minV (a := n) (b := 12) (by omega) (by omega) h).trans (by rw [Nat.min_eq_left h12])
  have g3 : ah_f h4 a 3 = nI l := by
    rw [e4, f_sf_s, u1_s, e3, f_sf_n _ _ _ _ _ (by omega)]
    exact p3
  clear e4 e3
  have L4 := lk_fr L F4
  refine ⟨lk_o L4, c_mark (A := A) L4 (by omega) (by rw [fr_f F4 lb (nm _ (by omega))]; exact hn) (fun e he => by rw [fr_i F4 _ (nm _ (by omega))]; exact hm e he) R (by rw [fr_i F4 _ (nm _ (by omega)), fr_i F4 _ (nm _ (by omega))]; exact rg) hb ⟨_, rfl, (so_fr S F4).2.1, fun h9 e9 => ?_⟩⟩
  have F9 : fr [a, a + 1, a + 2] h h9 := by rw [e9]; exact fr_sf F4 m0
  have q2 : ah_f h9 a 2 = nI n := by rw [e9, f_sf_s, u1_n _ _ (by decide)]; exact g2
  have q3 : ah_f h9 a 3 = nI l := by rw [e9, f_sf_s, u1_n _ _ (by decide)]; exact g3
  have q4 : ah_f h9 a 4 = mk n (mt n A) (4 * n) := by rw [e9, f_sf_s, u1_s]
  clear e9
  have S9 := so_fr S F9
  have P9 := pt_fr P F9
  have L9 := lk_fr L F9
  have e4n : (4 : Int32) * nI n = nI (4 * n) := pk_mul 4 n
  refine ⟨pt_o P9, b + 2, pt_r1 P9, a + 1, S9.2.2.1, ?_⟩
  rw [q2, e4n]
  refine ⟨cp_nI (sp_ := 0) (dp := 0) P9.2.2.2.2.2 S9.2.2.2.2.1 (by omega) (by omega) (by decide) (by decide), fun h14 e14 => ?_⟩
  rw [show Int32.toNatClampNeg (0 : Int32) = 0 from rfl, nI_clamp (by omega)] at e14
  have F14 : fr [a, a + 1, a + 2] h9 h14 := by rw [e14]; exact fr_wi (fr_refl _ h9) m1_
  have f14 : ah_f h14 = ah_f h9 := by rw [e14, f_wi]
  have i14 : ∀ e, e < 4 * n → ah_i h14 (a + 1) e = nI (A e) := fun e he => by
    rw [e14, i_wi_s]
    rw [pk_cpy_in (Nat.zero_le _) (by omega), fr_i F9 (b + 2) (nm _ (by omega)), Nat.zero_add, Nat.sub_zero]
    exact pA e he
  clear e14
  have S14 := so_fr S9 F14
  have L14 := lk_fr L9 F14
  refine ⟨lk_o L14, lb + 1, lk_r0 L14, a + 2, S14.2.2.2.1, ?_⟩
  rw [f14, q2, e4n]
  refine ⟨cp_nI (sp_ := 0) (dp := 0) (lk_x0 L14) S14.2.2.2.2.2 (by omega) (by omega) (by decide) (by decide), fun h19 e19 => ?_⟩
  rw [show Int32.toNatClampNeg (0 : Int32) = 0 from rfl, nI_clamp (by omega)] at e19
  have F19 : fr [a, a + 1, a + 2] h14 h19 := by rw [e19]; exact fr_wi (fr_refl _ h14) m2
  have f19 : ah_f h19 = ah_f h9 := by rw [e19, f_wi, f14]
  have i19 : ∀ e, e < 4 * n → ah_i h19 (a + 2) e = nI (mt n A e) := fun e he => by
    rw [e19, i_wi_s]
    rw [pk_cpy_in (Nat.zero_le _) (by omega), fr_i F14 (lb + 1) (nm _ (by omega)), fr_i F9 (lb + 1) (nm _ (by omega)), Nat.zero_add, Nat.sub_zero]
    exact hm e he
  have j19 : ah_i h19 (a + 1) = ah_i h14 (a + 1) := by rw [e19, i_wi_n _ _ _ _ (by omega)]
  exact k h19 (fr_trans F9 (fr_trans F14 F19)) ⟨by rw [f19]; exact q2, by rw [f19]; exact q3, by rw [f19]; exact q4, fun e he => by rw [j19]; exact i14 e he, i19⟩
/-- a State made just now -/
def NS (h h' : AH) (b : Nat) : Prop := ah_n h' = ah_n h + 3 ∧ b = ah_n h ∧ (∀ a, a ≠ b → a ≠ b + 1 → a ≠ b + 2 → eqc h h' a) ∧ so h' b
theorem c_sinit {h2 : AH} (e2 : h2 = ah_no h 10) (hmax : ah_n h + 3 ≤ 10000000) (k : ∀ h', NS h h' (ah_n h) → Q none h') : ex_S yX10_init mX10_init (d + 1) [.ref (ah_n h)] h2 (bc + 2) (bs + 96) Q := by
  have n2 : ah_n h2 = ah_n h + 1 := by rw [e2]; exact n_no _ _
  have k2 : ah_k h2 (ah_n h) = (30, 0) := by rw [e2]; exact k_no_s _ _
  have r2 : ah_r h2 (ah_n h) = fun _ => none := by rw [e2]; exact r_no_s _ _
  have q2 : ∀ a, a ≠ ah_n h → eqc h h2 a := fun a ha => by rw [e2]; exact eqc_no h 10 ha
  clear e2
  refine X10_init_e (X10_init_0 ⟨by omega, fun h3 e3 => ?_⟩)
  have n3 : ah_n h3 = ah_n h + 2 := by rw [e3, n_na, n2]
  have k3 : ah_k h3 (ah_n h + 1) = (0, 48) := by
    have := k_na_s h2 0 48
    rw [n2] at this
    rw [e3]
    exact this
  have q3 : ∀ a, a ≠ ah_n h + 1 → eqc h2 h3 a := fun a ha => by rw [e3]; exact eqc_na h2 _ _ (by rw [n2]; exact ha)
  clear e3
  have o3 : ah_o h3 (ah_n h) 10 := ⟨by omega, by rw [(q3 _ (by omega)).1, k2]⟩
  refine ⟨o3, fun h4 e4 => ?_⟩
  have n4 : ah_n h4 = ah_n h + 2 := by rw [e4, n_sr, n3]
  have q4 : ∀ a, a ≠ ah_n h → eqc h3 h4 a := fun a ha => by rw [e4]; exact eqc_sr _ _ _ _ ha
  have r4 : ah_r h4 (ah_n h) = u1 (fun _ => none) 0 (some (ah_n h + 1)) := by
    rw [e4, r_sr_s, (q3 _ (by omega)).2.2.2.2.1, r2, n2]
  have k4 : ah_k h4 (ah_n h) = (30, 0) := by rw [e4, k_sr, (q3 _ (by omega)).1, k2]
  clear e4
  refine ⟨by omega, fun h6 e6 => ?_⟩
  have n6 : ah_n h6 = ah_n h + 3 := by rw [e6, n_na, n4]
  have k6 : ah_k h6 (ah_n h + 2) = (0, 48) := by
    have := k_na_s h4 0 48
    rw [n4] at this
    rw [e6]
    exact this
  have q6 : ∀ a, a ≠ ah_n h + 2 → eqc h4 h6 a := fun a ha => by rw [e6]; exact eqc_na h4 _ _ (by rw [n4]; exact ha)
  clear e6
  have o6 : ah_o h6 (ah_n h) 10 := ⟨by omega, by rw [(q6 _ (by omega)).1, k4]⟩
  refine ⟨o6, fun h8 e8 => ?_⟩
  have n8 : ah_n h8 = ah_n h + 3 := by rw [e8, n_sr, n6]
  have q8 : ∀ a, a ≠ ah_n h → eqc h6 h8 a := fun a ha => by rw [e8]; exact eqc_sr _ _ _ _ ha
  have r8 : ah_r h8 (ah_n h) = u1 (u1 (fun _ => none) 0 (some (ah_n h + 1))) 1 (some (ah_n h + 2)) := by
    rw [e8, r_sr_s, (q6 _ (by omega)).2.2.2.2.1, r4, n4]
  have k8 : ah_k h8 (ah_n h) = (30, 0) := by rw [e8, k_sr, (q6 _ (by omega)).1, k4]
  clear e8
  refine k h8 ⟨n8, rfl, fun a a1 a2 a3 => eqc_trans (q2 a a1) (eqc_trans (q3 a a2) (eqc_trans (q4 a a1) (eqc_trans (q6 a a3) (q8 a a1)))), ⟨by omega, ⟨by omega, by rw [k8]⟩, by rw [r8, u1_n _ _ (by decide), u1_s], by rw [r8, u1_s], ⟨by omega, ?_⟩, ⟨by omega, ?_⟩⟩⟩
  · rw [(q8 _ (by omega)).1, (q6 _ (by omega)).1, (q4 _ (by omega)).1]; exact k3
  · rw [(q8 _ (by omega)).1]; exact k6
end SOPS
