/-! A picture more: addLike, added; the relation behind it. -/
theorem n_no (h : AH) (c : Nat) : ah_n (ah_no h c) = ah_n h + 1 := of_eq_true (eq_true rfl)
theorem k_no_s (h : AH) (c : Nat) : ah_k (ah_no h c) (ah_n h) = (20 + c, 0) := u1_s _ _ _
theorem f_no_s (h : AH) (c : Nat) : ah_f (ah_no h c) (ah_n h) = fun _ => 0 := u1_s _ _ _
theorem r_no_s (h : AH) (c : Nat) : ah_r (ah_no h c) (ah_n h) = fun _ => none := u1_s _ _ _
theorem eqc_no (h : AH) (c : Nat) {b : Nat} (e : b ≠ ah_n h) : eqc h (ah_no h c) b := ⟨u1_n _ _ e, u1_n _ _ e, rfl, rfl, u1_n _ _ e, rfl⟩
section ADD
variable {h h' hx : AH} {d bc bs : Nat} {Q : Option Value → AH → Prop} {W : Nat → Nat} {N : Nat} {B : Nat → Nat} {S : Nat → Int32} {len : Nat}
/-- a picture made just now, at b -/
def NP (h h' : AH) (b : Nat) : Prop := ah_n h' = ah_n h + 3 ∧ b = ah_n h ∧ (∀ a, a ≠ b → a ≠ b + 1 → a ≠ b + 2 → eqc h h' a) ∧ pt h' b ∧ (∀ k, ah_f h' b k = 0) ∧ ah_r h' b 4 = none
theorem c_init {h2 : AH} (e2 : h2 = ah_no h 7) (hmax : ah_n h + 3 ≤ 10000000) (k : ∀ h', NP h h' (ah_n h) → Q none h') : ex_S yX7_init mX7_init (d + 1) [.ref (ah_n h)] h2 (bc + 2) (bs + 200) Q := by
  have n2 : ah_n h2 = ah_n h + 1 := by rw [e2]; exact n_no _ _
  have k2 : ah_k h2 (ah_n h) = (27, 0) := by rw [e2]; exact k_no_s _ _
  have f2 : ah_f h2 (ah_n h) = fun _ => 0 := by rw [e2]; exact f_no_s _ _
  have r2 : ah_r h2 (ah_n h) = fun _ => none := by rw [e2]; exact r_no_s _ _
  have q2 : ∀ a, a ≠ ah_n h → eqc h h2 a := fun a ha => by rw [e2]; exact eqc_no h 7 ha
  clear e2
  refine X7_init_e (X7_init_0 ⟨by omega, fun h3 e3 => ?_⟩)
  have n3 : ah_n h3 = ah_n h + 2 := by rw [e3, n_na, n2]
  have k3 : ah_k h3 (ah_n h + 1) = (0, 40) := by
    have := k_na_s h2 0 40
    rw [n2] at this
    rw [e3]
    exact this
  have q3 : ∀ a, a ≠ ah_n h + 1 → eqc h2 h3 a := fun a ha => by rw [e3]; exact eqc_na h2 _ _ (by rw [n2]; exact ha)
  clear e3
  have o3 : ah_o h3 (ah_n h) 7 := ⟨by omega, by rw [(q3 _ (by omega)).1, k2]⟩
  refine ⟨o3, fun h4 e4 => ?_⟩
  have n4 : ah_n h4 = ah_n h + 2 := by rw [e4, n_sr, n3]
  have q4 : ∀ a, a ≠ ah_n h → eqc h3 h4 a := fun a ha => by rw [e4]; exact eqc_sr _ _ _ _ ha
  have r4 : ah_r h4 (ah_n h) = u1 (fun _ => none) 0 (some (ah_n h + 1)) := by
    rw [e4, r_sr_s, (q3 _ (by omega)).2.2.2.2.1, r2, n2]
  have f4 : ah_f h4 (ah_n h) = fun _ => 0 := by rw [e4, f_sr, (q3 _ (by omega)).2.1, f2]
  have k4 : ah_k h4 (ah_n h) = (27, 0) := by rw [e4, k_sr, (q3 _ (by omega)).1, k2]
  clear e4
  refine ⟨by omega, fun h6 e6 => ?_⟩
  have n6 : ah_n h6 = ah_n h + 3 := by rw [e6, n_na, n4]
  have k6 : ah_k h6 (ah_n h + 2) = (0, 160) := by
    have := k_na_s h4 0 160
    rw [n4] at this
    rw [e6]
    exact this
  have q6 : ∀ a, a ≠ ah_n h + 2 → eqc h4 h6 a := fun a ha => by rw [e6]; exact eqc_na h4 _ _ (by rw [n4]; exact ha)
  clear e6
  have o6 : ah_o h6 (ah_n h) 7 := ⟨by omega, by rw [(q6 _ (by omega)).1, k4]⟩
  refine ⟨o6, fun h8 e8 => ?_⟩
  have n8 : ah_n h8 = ah_n h + 3 := by rw [e8, n_sr, n6]
  have q8 : ∀ a, a ≠ ah_n h → eqc h6 h8 a := fun a ha => by rw [e8]; exact eqc_sr _ _ _ _ ha
  have r8 : ah_r h8 (ah_n h) = u1 (u1 (fun _ => none) 0 (some (ah_n h + 1))) 1 (some (ah_n h + 2)) := by
    rw [e8, r_sr_s, (q6 _ (by omega)).2.2.2.2.1, r4, n4]
  have f8 : ah_f h8 (ah_n h) = fun _ => 0 := by rw [e8, f_sr, (q6 _ (by omega)).2.1, f4]
  have k8 : ah_k h8 (ah_n h) = (27, 0) := by rw [e8, k_sr, (q6 _ (by omega)).1, k4]
  clear e8
  have P8 : pt h8 (ah_n h) := by
    refine ⟨by omega, ⟨by omega, by rw [k8]⟩, by rw [r8, u1_n _ _ (by decide), u1_s], by rw [r8, u1_s], ⟨by omega, ?_⟩, ⟨by omega, ?_⟩⟩
    · rw [(q8 _ (by omega)).1, (q6 _ (by omega)).1, (q4 _ (by omega)).1]; exact k3
    · rw [(q8 _ (by omega)).1]; exact k6
  refine ⟨ah_n h + 2, by rw [r8, u1_s], j_fill (n := 160) P8.2.2.2.2.2 (by omega) _ ⟨rfl, ?_⟩⟩
  have F9 : fr [ah_n h + 2] h8 (ah_wi h8 (ah_n h + 2) (fl (ah_i h8 (ah_n h + 2)) 160 (-1))) := fr_wi (fr_refl _ h8) List.mem_cons_self
  generalize ah_wi h8 (ah_n h + 2) (fl (ah_i h8 (ah_n h + 2)) 160 (-1)) = h9 at F9 ⊢
  refine k h9 ⟨by rw [F9.1.1]; exact n8, rfl, fun a a1 a2 a3 => ?_, pt_fr P8 F9, fun j => ?_, ?_⟩
  · exact eqc_trans (q2 a a1) (eqc_trans (q3 a a2) (eqc_trans (q4 a a1) (eqc_trans (q6 a a3) (eqc_trans (q8 a a1) (eqc_fr F9 (by simp only [List.mem_cons, List.not_mem_nil, or_false]; omega))))))
  · rw [fr_f F9 _ (by simp only [List.mem_cons, List.not_mem_nil, or_false]; omega), f8]
  · rw [F9.1.2.2.1, r8, u1_n _ _ (by decide), u1_n _ _ (by decide)]
/-- what addLike leaves: a copy of the picture at c, at b -/
def AL (h h' : AH) (N b c : Nat) : Prop := ah_n h' = ah_n h + 3 ∧ b = ah_n h ∧ (∀ a, a ≠ b → a ≠ b + 1 → a ≠ b + 2 → a ≠ 0 → a ≠ 1 → eqc h h' a) ∧ (ah_k h' 0 = ah_k h 0 ∧ ah_r h' 0 = ah_r h 0 ∧ ah_f h' 0 = u1 (ah_f h 0) 15 (nI (N + 1))) ∧ (ah_k h' 1 = ah_k h 1 ∧ ah_r h' 1 = ah_r h 1 ∧ ah_q h' 1 = u1 (ah_q h 1) N (some b)) ∧ pt h' b ∧ (ah_f h' b 2 = ah_f h c 2 ∧ ah_f h' b 3 = ah_f h c 3 ∧ ah_f h' b 5 = nI 0 ∧ ah_f h' b 6 = nI 0 ∧ ah_r h' b 4 = none) ∧ (∀ i, i < 40 → ah_i h' (b + 1) i = ah_i h (c + 1) i) ∧ ∀ e, e < 160 → ah_i h' (b + 2) e = ah_i h (c + 2) e
theorem c_addLike {c : Nat} (K : sp h) (hN : ah_f h 0 15 = nI N) (h24 : N < 24) (P : pt h c) (hc : c + 3 ≤ ah_n h) (hc2 : 2 ≤ c) (hmax : ah_n h + 3 ≤ 10000000) (k : ∀ h', AL h h' N (ah_n h) c → sp h' → Q (some (.int (nI N))) h') : ex_S yX11_addLike mX11_addLike (d + 2) [.ref 0, .ref c] h (bc + 3) (bs + 207) Q := by
  have h216 := K.1
  refine X11_addLike_e (X11_addLike_0 ⟨by omega, fun h2 e2 => c_init e2 hmax (fun h3 np => ⟨rfl, ?_⟩)⟩)
  obtain ⟨n3, -, q3, P3, f3, r3⟩ := np
  have Pc : pt h3 c := pt_eq P (q3 _ (by omega) (by omega) (by omega)) (q3 _ (by omega) (by omega) (by omega)) (q3 _ (by omega) (by omega) (by omega)) (by omega)
  have K3 : sp h3 := sp_lo K (by omega) (fun a ha => q3 a (by omega) (by omega) (by omega))
  refine ⟨pt_o P3, c_take (d := d) P3 Pc (by omega) (fun h4 F4 g0 g1 g2 => ⟨rfl, ?_⟩)⟩
  have K4 := sp_fr K3 F4
  have nm : ∀ a, a ≠ ah_n h → a ≠ ah_n h + 1 → a ≠ ah_n h + 2 → a ∉ [ah_n h, ah_n h + 1, ah_n h + 2] := fun a a1 a2 a3 => by
    simp only [List.mem_cons, List.not_mem_nil, or_false]
    omega
  have hN4 : ah_f h4 0 15 = nI N := by
    rw [fr_f F4 0 (nm 0 (by omega) (by omega) (by omega)), (q3 0 (by omega) (by omega) (by omega)).2.1]
    exact hN
  refine ⟨o0 K4, 1, r0_0 K4, ?_⟩
  rw [hN4, s1 K4, ix_nI (by omega), nI_clamp (by omega)]
  refine ⟨h24, pt_o (pt_fr P3 F4), fun h8 e8 h11 e11 => ?_⟩
  have n11 : ah_n h11 = ah_n h + 3 := by rw [e11, n_sf, e8, n_sq, F4.1.1]; exact n3
  have f8 : ah_f h8 = ah_f h4 := by rw [e8, f_sq]
  have e11' : h11 = ah_sf h8 0 15 (nI (N + 1)) := by rw [e11, f8, hN4, nI_1]
  have q8 : ∀ a, a ≠ 1 → eqc h4 h8 a := fun a ha => by rw [e8]; exact ⟨by rw [k_sq], by rw [f_sq], by rw [i_sq], by rw [l_sq], by rw [r_sq], q_sq_n _ _ _ _ _ ha⟩
  have q11 : ∀ a, a ≠ 0 → eqc h8 h11 a := fun a ha => by rw [e11']; exact ⟨by rw [k_sf], f_sf_n _ _ _ _ _ ha, by rw [i_sf], by rw [l_sf], by rw [r_sf], by rw [q_sf]⟩
  have v11 : ah_f h11 0 15 = nI (N + 1) := by rw [e11', f_sf_s, u1_s]
  have ev : nI (N + 1) - 1 = nI N := pk_sub (a := N + 1) (b := 1) (by omega)
  rw [v11, ev]
  have a0 : ah_k h11 0 = ah_k h 0 ∧ ah_r h11 0 = ah_r h 0 ∧ ah_f h11 0 = u1 (ah_f h 0) 15 (nI (N + 1)) := by
    refine ⟨?_, ?_, ?_⟩
    · rw [e11', k_sf, (q8 0 (by decide)).1, F4.1.2.1, (q3 0 (by omega) (by omega) (by omega)).1]
    · rw [e11', r_sf, (q8 0 (by decide)).2.2.2.2.1, F4.1.2.2.1, (q3 0 (by omega) (by omega) (by omega)).2.2.2.2.1]
    · rw [e11', f_sf_s, (q8 0 (by decide)).2.1, fr_f F4 0 (nm 0 (by omega) (by omega) (by omega)), (q3 0 (by omega) (by omega) (by omega)).2.1]
  have a1 : ah_k h11 1 = ah_k h 1 ∧ ah_r h11 1 = ah_r h 1 ∧ ah_q h11 1 = u1 (ah_q h 1) N (some (ah_n h)) := by
    refine ⟨?_, ?_, ?_⟩
    · rw [(q11 1 (by decide)).1, e8, k_sq, F4.1.2.1, (q3 1 (by omega) (by omega) (by omega)).1]
    · rw [(q11 1 (by decide)).2.2.2.2.1, e8, r_sq, F4.1.2.2.1, (q3 1 (by omega) (by omega) (by omega)).2.2.2.2.1]
    · rw [(q11 1 (by decide)).2.2.2.2.2, e8, q_sq_s, F4.1.2.2.2, (q3 1 (by omega) (by omega) (by omega)).2.2.2.2.2]
  have big : ∀ a, 2 ≤ a → eqc h4 h11 a := fun a ha => eqc_trans (q8 a (by omega)) (q11 a (by omega))
  have zb : ∀ j, j ≠ 2 → j ≠ 3 → ah_f h11 (ah_n h) j = nI 0 := fun j j1 j2 => by
    rw [(big _ (by omega)).2.1, g0, u1_n _ _ j2, u1_n _ _ j1, f3]
    rfl
  have AL_ : AL h h11 N (ah_n h) c := by
    refine ⟨n11, rfl, fun a b1 b2 b3 b4 b5 => eqc_trans (q3 a b1 b2 b3) (eqc_trans (eqc_fr F4 (nm a b1 b2 b3)) (big a (by omega))), a0, a1, pt_eq (pt_fr P3 F4) (big _ (by omega)) (big _ (by omega)) (big _ (by omega)) (by rw [n11, F4.1.1, n3]; exact Nat.le_refl _), ⟨?_, ?_, zb 5 (by decide) (by decide), zb 6 (by decide) (by decide), ?_⟩, fun i hi => ?_, fun e he => ?_⟩
    · rw [(big _ (by omega)).2.1, g0, u1_n _ _ (by decide), u1_s, (q3 c (by omega) (by omega) (by omega)).2.1]
    · rw [(big _ (by omega)).2.1, g0, u1_s, (q3 c (by omega) (by omega) (by omega)).2.1]
    · rw [(big _ (by omega)).2.2.2.2.1, F4.1.2.2.1, r3]
    · rw [(big _ (by omega)).2.2.1, g1, pk_cpy_in (by omega) (by omega), Nat.sub_zero, Nat.zero_add, (q3 (c + 1) (by omega) (by omega) (by omega)).2.2.1]
    · rw [(big _ (by omega)).2.2.1, g2, pk_cpy_in (by omega) (by omega), Nat.sub_zero, Nat.zero_add, (q3 (c + 2) (by omega) (by omega) (by omega)).2.2.1]
  refine k h11 AL_ ⟨by omega, fun a ha => ?_, fun t ht => ?_⟩
  · by_cases z0 : a = 0
    · rw [z0, a0.1]; exact K.2.1 0 (by decide)
    · by_cases z1 : a = 1
      · rw [z1, a1.1]; exact K.2.1 1 (by decide)
      · rw [(AL_.2.2.1 a (by omega) (by omega) (by omega) z0 z1).1]; exact K.2.1 a ha
  · have lt : ∀ t ∈ R0L, t.1 < 216 := by decide +kernel
    have ltt := lt t ht
    by_cases z0 : t.1 = 0
    · rw [z0, a0.2.1, ← z0]; exact K.2.2 t ht
    · by_cases z1 : t.1 = 1
      · rw [z1, a1.2.1, ← z1]; exact K.2.2 t ht
      · rw [(AL_.2.2.1 t.1 (by omega) (by omega) (by omega) z0 z1).2.2.2.2.1]; exact K.2.2 t ht
theorem m_added {s n : Nat} (K : sp h) (hN2 : ah_f h 168 6 = nI N) (h24 : N < 24) (hs : s < 368) (hsN : s ≠ N) (hn : ah_i h 170 s = nI n) (h40 : n ≤ 40) (k : ∀ h', fr [168, 170, 171, 172, 173, 174] h h' → (∀ u, u ≠ N → sl h h' u) → sC h s h' N → (∀ q, q ≠ N → ah_i h' 174 q = ah_i h 174 q) → ah_i h' 174 N = nI 0 → ah_f h' 168 = u1 (u1 (ah_f h 168) 6 (nI (N + 1))) 0 (nI 0) → Q (some (.int (nI N))) h') : ex_S yX12_added mX12_added (d + 1) [.ref 168, .int (nI s)] h bc bs Q := by
  refine X12_added_e (X12_added_0 ⟨o168 K, ?_⟩)
  rw [hN2]
  refine m_copyS K hs (by omega) hsN hn h40 (fun h2 F2 s2 c2 => ⟨rfl, o168 (sp_fr K F2), 174, r168_7 (sp_fr K F2), ?_⟩)
  have K2 := sp_fr K F2
  have hN3 : ah_f h2 168 6 = nI N := by rw [fr_f F2 168 (by decide)]; exact hN2
  rw [hN3, t174 K2, ix_nI (by omega), nI_clamp (by omega)]
  refine ⟨h24, fun h5 e5 h7 e7 => ?_⟩
  have f5 : ah_f h5 = ah_f h2 := by rw [e5, f_si]
  have e7' : h7 = ah_sf h5 168 6 (nI (N + 1)) := by rw [e7, f5, hN3, nI_1]
  have F7 : fr [168, 174] h2 h7 := by rw [e7', e5]; exact fr_sf (fr_si (fr_refl _ h2) (by decide)) (by decide)
  have i7 : ah_i h7 174 = u1 (ah_i h2 174) N (nI 0) := by rw [e7', i_sf, e5, i_si_s]; rfl
  have v7 : ah_f h7 168 = u1 (ah_f h2 168) 6 (nI (N + 1)) := by rw [e7', f_sf_s, f5]
  clear e7 e7' e5 f5
  have K7 := sp_fr K2 F7
  have ev : nI (N + 1) - 1 = nI N := pk_sub (a := N + 1) (b := 1) (by omega)
  refine ⟨weC K7 _, fun h9 e9 => ?_⟩
  rw [weV, v7, u1_s, ev]
  have e9' : h9 = mNo h7 (nI 0) := e9
  have F9 : fr [168] h7 h9 := by rw [e9']; exact fr_sf (fr_refl _ h7) (by decide)
  have v9 : ah_f h9 168 = u1 (ah_f h7 168) 0 (nI 0) := by rw [e9']; unfold mNo; rw [f_sf_s]
  have s9 : ∀ u, sl h2 h9 u := fun u => sl_of u (by rw [fr_i F9 170 (by decide), fr_i F7 170 (by decide)]) (by rw [fr_i F9 171 (by decide), fr_i F7 171 (by decide)]) (by rw [fr_i F9 172 (by decide), fr_i F7 172 (by decide)]) (by rw [fr_i F9 173 (by decide), fr_i F7 173 (by decide)])
  refine k h9 (fr_trans (fr_mono F2 (by decide)) (fr_trans (fr_mono F7 (by decide)) (fr_mono F9 (by decide)))) (fun u hu => sl_trans (s2 u hu) (s9 u)) (sC_sl c2 h40 hn (s9 N)) (fun q hq => ?_) ?_ ?_
  · rw [fr_i F9 174 (by decide), i7, u1_n _ _ hq, fr_i F2 174 (by decide)]
  · rw [fr_i F9 174 (by decide), i7, u1_s]
  · rw [v9, v7, fr_f F2 168 (by decide)]
/-- one picture more in the relation -/
theorem R_add {h9 : AH} {b : Nat} (x : R0 h W N B S len) (h24 : N < 24) (hb : b = ah_n h) (n9 : ah_n h9 = ah_n h + 3) (K9 : sp h9) (L9 : LAC h9) (hi : ∀ a, 10000000 ≤ a → eqc h h9 a)
    (E : ∀ a, a < ah_n h → a ∉ Cscr → a ∉ Mscr → a ≠ 0 → a ≠ 1 → a ≠ 174 → a ≠ 134 → a ≠ 135 → a ≠ 212 → eqc h h9 a)
    (q1 : ah_q h9 1 = u1 (ah_q h 1) N (some b)) (k0 : ∀ k, k ≠ 15 → k ≠ 19 → ah_f h9 0 k = ah_f h 0 k) (k15 : ah_f h9 0 15 = nI (N + 1)) (k1 : ∀ k, k ≠ 0 → k ≠ 6 → k ≠ 9 → k ≠ 59 → ah_f h9 168 k = ah_f h 168 k) (k6 : ah_f h9 168 6 = nI (N + 1)) (w : ah_f h9 0 19 = ah_f h9 168 0)
    (s9 : ∀ s, s < 264 → s ≠ N → sl h h9 s) (p4 : ∀ q, q ≠ N → ah_i h9 174 q = ah_i h 174 q) (p4N : ah_i h9 174 N = nI 0) (NW : NU h9 134 135 59 212 100)
    (P : pt h9 b) (r : rp h9 b N) (f5 : ah_f h9 b 5 = nI 0) (f6 : ah_f h9 b 6 = nI 0) (r4 : ah_r h9 b 4 = none) : R0 h9 (fun a => if ah_n h ≤ a then N else W a) (N + 1) (u1 B N b) S len := by
  obtain ⟨y, x0, x1, x2, x3, x4, ⟨x5, x6, x7⟩, x8, x9, x10⟩ := x
  obtain ⟨p1, p2, p3, p4_⟩ := x3
  have h216 := x0.1
  have hn : ah_n h ≤ ah_n h9 := by omega
  have e : ∀ a, a < 216 → a ∉ Cscr → a ∉ Mscr → a ≠ 0 → a ≠ 1 → a ≠ 174 → a ≠ 134 → a ≠ 135 → a ≠ 212 → eqc h h9 a := fun a ha => E a (by omega)
  have big : ∀ a, 216 ≤ a → a < ah_n h → eqc h h9 a := fun a a1 a2 => E a a2 (cscr_no a1) (mscr_no a1) (by omega) (by omega) (by omega) (by omega) (by omega) (by omega)
  have hW : ∀ a, a < ah_n h → (fun a => if ah_n h ≤ a then N else W a) a = W a := fun a ha => if_neg (by omega)
  have dd : ∀ a, a < 216 → a ∉ Cscr → a ∉ Mscr → a ≠ 0 ∧ a ≠ 1 ∧ a ≠ 174 ∧ a ≠ 134 ∧ a ≠ 135 ∧ a ≠ 212 → eqc h h9 a := fun a ha c m ⟨z1, z2, z3, z4, z5, z6⟩ => e a ha c m z1 z2 z3 z4 z5 z6
  refine ⟨⟨w, ?_, ?_, ?_⟩, K9, L9, OLD_eq x2 hi, ⟨by omega, k15, k6, fun p hp => ?_⟩, MV_eq x4 hW (k0 16 (by decide) (by decide)) (k1 35 (by decide) (by decide) (by decide) (by decide)) (dd 2 (by decide) (by decide) (by decide) (by decide)).2.2.2.2.2 (dd 197 (by decide) (by decide) (by decide) (by decide)).2.2.1 (fun a a1 a2 _ _ => big a a1 a2) hn, ⟨NU_eq x5 (dd 3 (by decide) (by decide) (by decide) (by decide)).2.1 (k1 29 (by decide) (by decide) (by decide) (by decide)) (dd 4 (by decide) (by decide) (by decide) (by decide)).2.2.1 (dd 191 (by decide) (by decide) (by decide) (by decide)).2.2.1, NU_eq x6 (dd 5 (by decide) (by decide) (by decide) (by decide)).2.1 (k1 38 (by decide) (by decide) (by decide) (by decide)) (dd 6 (by decide) (by decide) (by decide) (by decide)).2.2.1 (dd 198 (by decide) (by decide) (by decide) (by decide)).2.2.1, NW⟩, RS_eq x8 (dd 73 (by decide) (by decide) (by decide) (by decide)) (k1 22 (by decide) (by decide) (by decide) (by decide)) (dd 74 (by decide) (by decide) (by decide) (by decide)).2.2.2.1 (dd 75 (by decide) (by decide) (by decide) (by decide)).2.2.2.1 (dd 186 (by decide) (by decide) (by decide) (by decide)).2.2.2.1, SPn_eq x9 (dd 32 (by decide) (by decide) (by decide) (by decide)).2.1 (k1 23 (by decide) (by decide) (by decide) (by decide)), BK_eq x10 hW (dd 164 (by decide) (by decide) (by decide) (by decide)).2.1 (k1 62 (by decide) (by decide) (by decide) (by decide)) (dd 165 (by decide) (by decide) (by decide) (by decide)).2.2.2.1 (dd 166 (by decide) (by decide) (by decide) (by decide)).2.2.2.2.2 (dd 214 (by decide) (by decide) (by decide) (by decide)).2.2.2.1 (dd 215 (by decide) (by decide) (by decide) (by decide)).2.2.2.1 (fun a a1 a2 _ _ => big a a1 a2) hn⟩
  · rw [k0 17 (by decide) (by decide), k1 15 (by decide) (by decide) (by decide) (by decide)]; exact y.2.1
  · rw [k0 18 (by decide) (by decide), k1 60 (by decide) (by decide) (by decide) (by decide)]; exact y.2.2.1
  · intro k a1 a2
    rw [(dd 167 (by decide) (by decide) (by decide) (by decide)).2.2.1, (dd 169 (by decide) (by decide) (by decide) (by decide)).2.2.1]
    exact y.2.2.2 k a1 a2
  · by_cases z : p = N
    · subst z
      rw [q1, u1_s, u1_s]
      refine ⟨rfl, by omega, by omega, P, ⟨if_pos (by omega), if_pos (by omega), if_pos (by omega)⟩, r, 0, 0, by omega, by omega, p4N, f5, f6, Or.inl ⟨r4, rfl⟩⟩
    · rw [q1, u1_n _ _ z, u1_n _ _ z]
      refine ⟨(p4_ p (by omega)).1, PX_eq (p4_ p (by omega)).2 hW (fun a a1 a2 _ => big a a1 a2) (p4 p z) (s9 p (by omega) z) (fun k hk => s9 _ (by omega) (by omega)) hn⟩
end ADD
