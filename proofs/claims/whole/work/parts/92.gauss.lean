/-! gauss. -/
theorem ct_ex {p : Nat → Prop} : ∀ (N q : Nat), q < ct p N → ∃ y, y < N ∧ p y ∧ ct p y = q := by
  intro N
  induction N with
  | zero => exact fun q h => absurd h (Nat.not_lt_zero _)
  | succ N ih =>
    intro q h
    by_cases w : p N
    · rw [ct_y w] at h
      by_cases z : q = ct p N
      · exact ⟨N, by omega, w, z.symm⟩
      · obtain ⟨y, a, b⟩ := ih q (by omega)
        exact ⟨y, by omega, b⟩
    · rw [ct_n w] at h
      obtain ⟨y, a, b⟩ := ih q h
      exact ⟨y, by omega, b⟩
section TTN
variable {n : Nat} {A m : Nat → Nat}
theorem TT_next {y t p : Nat} {T T' : Nat → Int32} (h : TT n m y T t) (py : pmn n m y) (hp : isP (tu m) y p) (h1 : ∀ k, k < t → T' k = T k) (h2 : ∀ i, i < p → T' (t + i) = nI (wd n m (it (tu m) i y))) (h3 : T' (t + p) = m1) : TT n m (y + 1) T' (t + p + 1) := Or.inl ⟨py, t, p, TT_congr y T T' t h h1, hp, rfl, h2, h3⟩
theorem TT_fit (P : Pr n A m) (F : nR n m = n + 2 * nP n m) {y t p : Nat} {T : Nat → Int32} (hy : y < 4 * n) (h : TT n m y T t) (py : pmn n m y) (hp : isP (tu m) y p) : t + p + 1 ≤ 3 * n := by
  refine TT_3 P F (e := y + 1) (T := fun k => if k < t then T k else if k < t + p then nI (wd n m (it (tu m) (k - t) y)) else m1) (by omega) (TT_next h py hp (fun k hk => if_pos hk) (fun i hi => ?_) ?_)
  · show (if t + i < t then _ else if t + i < t + p then nI (wd n m (it (tu m) (t + i - t) y)) else m1) = _
    rw [if_neg (by omega), if_pos (by omega), show t + i - t = i by omega]
  · show (if t + p < t then _ else if t + p < t + p then nI (wd n m (it (tu m) (t + p - t) y)) else m1) = _
    rw [if_neg (by omega), if_neg (by omega)]
theorem wd_lt (P : Pr n A m) (h40 : n ≤ 40) {f : Nat} (hf : f < 4 * n) : wd n m f < 1000 := by
  have := P.lt hf
  unfold wd
  split <;> omega
end TTN
section GAUSS
variable {h : AH} {d bc bs n : Nat} {A m : Nat → Nat} {Q : Option Value → AH → Prop}
theorem c_spell_body {q f i y t : Nat} (K : sp h) (P : Pr n A m) (h40 : n ≤ 40) (hm : ∀ e, e < 4 * n → ah_i h 8 e = nI (m e)) (hs : ∀ c, c < n → ah_i h 14 c = sgn n m c) (hq : q < 160) (hy : ah_i h 13 q = nI y) (hyl : y < 4 * n) (hf : f < 4 * n) (hi : i < 160) (ht : ah_f h 3 1 = nI t) (ht2 : t < 130)
    (k1 : tu m f ≠ y → ∀ h1, fr [3, 3 + 1] h h1 → ah_f h1 3 1 = nI (t + 1) → ah_i h1 4 = u1 (ah_i h 4) t (nI (wd n m f)) → ex_G mX4_spell (d + 1) 24 [.ref 7, .ref 3, .int (nI q), .int (nI (tu m f)), .int (nI (i + 1)), .retAddr 0, .retAddr 0] [] h1 bc bs Q)
    (k2 : tu m f = y → ∀ h1, fr [3, 3 + 1] h h1 → ah_f h1 3 1 = nI (t + 1) → ah_i h1 4 = u1 (ah_i h 4) t (nI (wd n m f)) → ex_S yX6_add mX6_add d [.ref 3, .int (-1)] h1 0 0 (fun r h10 => ∃ x12, r = some (.int x12) ∧ ∀ x13, x13 = nI q + 1 → ex_G mX4_spell (d + 1) 6 [.ref 7, .ref 3, .int x13, .retAddr 0, .retAddr 0, .retAddr 0, .retAddr 0] [] h10 bc bs Q)) : ex_G mX4_spell (d + 1) 24 [.ref 7, .ref 3, .int (nI q), .int (nI f), .int (nI i), .retAddr 0, .retAddr 0] [] h bc bs Q := by
  have hml := P.lt hf
  have c160 : (160 : Int32) ≤ nI i ↔ 160 ≤ i := nI_leI (a := 160) (by omega) (by omega)
  refine X4_spell_24 ⟨fun w => by have := c160.mp w; omega, fun _ => ⟨o7 K, 8, r7_0 K, (s8 K _).mpr ((ix_nI (by omega)).mpr (by omega)), fun x9 e9 x10 e10 => ?_⟩⟩
  rw [nI_clamp (by omega), hm f hf] at e9
  subst e9
  have e10' : x10 = nI (m f / 4) := by rw [e10]; exact shr2 (by omega)
  clear e10
  subst e10'
  refine ⟨14, r7_6 K, (s14 K _).mpr ((ix_nI (by omega)).mpr (by omega)), ?_⟩
  rw [nI_clamp (by omega), hs _ (by omega)]
  have base : (4 * nI (m f / 4)) + (2 * (nI (m f) &&& 1)) = nI (4 * (m f / 4) + 2 * (m f % 2)) := by
    have a1 : (nI (m f) &&& 1 : Int32) = nI (m f % 2) := and1 (by omega)
    have a2 : (4 : Int32) * nI (m f / 4) = nI (4 * (m f / 4)) := pk_mul 4 _
    have a3 : (2 : Int32) * nI (m f % 2) = nI (2 * (m f % 2)) := pk_mul 2 _
    rw [a1, a2, a3, nI_add]
  rw [base]
  have go : ∀ b : Nat, wd n m f = 4 * (m f / 4) + 2 * (m f % 2) + b → b ≤ 1 → ex_G mX4_spell (d + 1) 74 [.ref 7, .ref 3, .int (nI q), .retAddr 0, .int (nI i), .int (nI (m f)), .retAddr 0] [.int (nI b), .int (nI (4 * (m f / 4) + 2 * (m f % 2))), .ref 3] h bc bs Q := by
    intro b eb hb
    refine X4_spell_74 ⟨o3 K, ?_⟩
    rw [nI_add, ← eb]
    refine c_numadd (b := 3) (o3 K) (r3_0 K) (sp_x K 4 (by decide) rfl) (by decide) ht ht2 _ (fun h1 F1 g1 g2 => ⟨_, rfl, fun x4 e4 => ?_⟩)
    have K1 := sp_fr K F1
    have e4' : x4 = nI (tu m f) := by rw [e4]; exact corner_nI (k := 2) (by omega) (by omega)
    clear e4
    subst e4'
    have tl := tu_lt P hf
    refine ⟨o7 K1, 13, r7_5 K1, (s13 K1 _).mpr ((ix_nI (by omega)).mpr (by omega)), ?_⟩
    rw [nI_clamp (by omega), fr_i F1 13 (by decide), hy, nI_eq (by omega) (by omega)]
    refine ⟨fun w x9 e9 => ?_, fun w => ⟨o3 K1, k2 w h1 F1 g1 g2⟩⟩
    have e9' : x9 = nI (i + 1) := by rw [e9]; exact nI_add _ 1
    rw [e9']
    exact k1 w h1 F1 g1 g2
  refine ⟨fun w => go 0 ?_ (by omega), fun w => go 1 ?_ (by omega)⟩
  · unfold wd
    rw [if_neg (show ¬ sgn n m (m f / 4) = nI 1 from w)]
  · unfold wd
    rw [if_pos (show sgn n m (m f / 4) = nI 1 from w)]
theorem c_spell {l : Nat} (K : sp h) (P : Pr n A m) (h40 : n ≤ 40) (Fl : nR n m = n + 2 * nP n m) (hl : ah_f h 7 11 = nI l) (L : LF h 7 n m)
    (k : ∀ h' t, fr [3, 3 + 1] h h' → ah_f h' 3 1 = nI (t + 1) → t ≤ 120 → TT n m (4 * n) (ah_i h' 4) t → ah_i h' 4 t = -2 - nI l → Q none h') : ex_S yX4_spell mX4_spell (d + 1) [.ref 7, .ref 3] h bc bs Q := by
  have nq := nQ_le n m
  refine X4_spell_e (X4_spell_0 ⟨o3 K, ⟨o3 K, trivial⟩, fun h3 e3 => ?_⟩)
  have F3 : fr [3, 3 + 1] h h3 := by rw [e3]; exact fr_sf (fr_refl _ h) (by decide)
  have z3 : ah_f h3 3 1 = nI 0 := by rw [e3]; unfold X6_empty_H; rw [f_sf_s]; exact u1_s _ _ _
  refine lp (nQ n m) (fun q h' => fr [3, 3 + 1] h h' ∧ ∃ t, ah_f h' 3 1 = nI t ∧ ∀ y, y ≤ 4 * n → ct (pmn n m) y = q → TT n m y (ah_i h' 4) t) (fun q h' => ex_G mX4_spell (d + 1) 6 [.ref 7, .ref 3, .int (nI q), .retAddr 0, .retAddr 0, .retAddr 0, .retAddr 0] [] h' bc bs Q) ⟨F3, 0, z3, fun y _ hc => TT_skip (a := 0) (T := ah_i h3 4) (t := 0) rfl y (Nat.zero_le _) hc.symm⟩ ?_ ?_
  · rintro q h1 hq ⟨F1, t, z1, I⟩ nx
    have K1 := sp_fr K F1
    obtain ⟨y, hy, py, cy⟩ := ct_ex (4 * n) q hq
    have T1 := I y (by omega) cy
    obtain ⟨p, hp, hpl⟩ := isP_ex (tuP P) hy
    have fit := TT_fit P Fl hy T1 py hp
    have st1 : ∀ h', fr [3, 3 + 1] h h' → ah_i h' 13 q = nI y := fun h' F' => by rw [fr_i F' 13 (by decide), ← cy]; exact L.2.2.2.2.2.2.1 y hy py
    have p0 := hp.1
    refine X4_spell_6 ⟨o7 K1, fun w => ?_, fun _ => ⟨13, r7_5 K1, (s13 K1 _).mpr ((ix_nI (by omega)).mpr (by omega)), fun x8 e8 => ?_⟩⟩
    · rw [fr_f F1 7 (by decide), L.2.2.2.2.1, nI_leI (by omega) (by omega)] at w
      omega
    rw [nI_clamp (by omega), st1 h1 F1] at e8
    subst e8
    refine lp (p - 1) (fun i h' => fr [3, 3 + 1] h h' ∧ ah_f h' 3 1 = nI (t + i) ∧ (∀ k, k < t → ah_i h' 4 k = ah_i h1 4 k) ∧ ∀ i', i' < i → ah_i h' 4 (t + i') = nI (wd n m (it (tu m) i' y))) (fun i h' => ex_G mX4_spell (d + 1) 24 [.ref 7, .ref 3, .int (nI q), .int (nI (it (tu m) i y)), .int (nI i), .retAddr 0, .retAddr 0] [] h' bc bs Q) ⟨F1, z1, fun _ _ => rfl, fun i hi => absurd hi (Nat.not_lt_zero i)⟩ ?_ ?_
    · rintro i h2 hi ⟨F2, z2, c2, w2⟩ nx2
      have hlt := it_lt (tuP P) hy i
      refine c_spell_body (t := t + i) (y := y) (sp_fr K F2) P h40 (fun e he => by rw [fr_i F2 8 (by decide)]; exact L.1 e he) (fun c hc => by rw [fr_i F2 14 (by decide)]; exact L.2.2.2.2.2.2.2.1 c hc) (by omega) (st1 h2 F2) hy hlt (by omega) z2 (by omega) (fun _ h4 F4 g1 g2 => ?_) (fun e => absurd (by rw [it_s]; exact e) (hp.2.2 (i + 1) (by omega) (by omega)))
      have := nx2 h4 ⟨fr_trans F2 F4, by rw [g1]; rfl, fun k hk => by rw [g2, u1_n _ _ (by omega)]; exact c2 k hk, fun i' hi' => ?_⟩
      · rw [it_s] at this
        exact this
      · rw [g2]
        by_cases w : i' = i
        · rw [w, u1_s]
        · rw [u1_n _ _ (by omega)]; exact w2 i' (by omega)
    · rintro h2 ⟨F2, z2, c2, w2⟩
      have hlt := it_lt (tuP P) hy (p - 1)
      have cyc : tu m (it (tu m) (p - 1) y) = y := by
        have := hp.2.1
        rw [show p = p - 1 + 1 by omega, it_s] at this
        exact this
      refine c_spell_body (t := t + (p - 1)) (y := y) (sp_fr K F2) P h40 (fun e he => by rw [fr_i F2 8 (by decide)]; exact L.1 e he) (fun c hc => by rw [fr_i F2 14 (by decide)]; exact L.2.2.2.2.2.2.2.1 c hc) (by omega) (st1 h2 F2) hy hlt (by omega) z2 (by omega) (fun e => absurd cyc e) (fun _ h4 F4 g1 g2 => ?_)
      have F4' := fr_trans F2 F4
      have K4 := sp_fr K F4'
      rw [show t + (p - 1) + 1 = t + p by omega] at g1
      refine c_numadd (b := 3) (o3 K4) (r3_0 K4) (sp_x K4 4 (by decide) rfl) (by decide) g1 (by omega) _ (fun h5 F5 g3 g4 => ⟨_, rfl, fun x13 e13 => ?_⟩)
      have e13' : x13 = nI (q + 1) := by rw [e13]; exact nI_add _ 1
      rw [e13']
      have g2' : ah_i h4 4 = u1 (ah_i h2 4) (t + (p - 1)) (nI (wd n m (it (tu m) (p - 1) y))) := g2
      have g4' : ah_i h5 4 = u1 (ah_i h4 4) (t + p) (-1) := g4
      have nxt : TT n m (y + 1) (ah_i h5 4) (t + p + 1) := TT_next T1 py hp (fun k hk => by rw [g4', u1_n _ _ (by omega), g2', u1_n _ _ (by omega)]; exact c2 k hk) (fun i hi => by
        rw [g4', u1_n _ _ (by omega), g2']
        by_cases w : i = p - 1
        · rw [w, u1_s]
        · rw [u1_n _ _ (by omega)]; exact w2 i (by omega)) (by rw [g4', u1_s]; rfl)
      refine nx h5 ⟨fr_trans F4' F5, t + p + 1, g3, fun y' hy' cy' => TT_skip nxt y' ?_ (by rw [ct_y py, cy, cy'])⟩
      by_cases w : y + 1 ≤ y'
      · exact w
      · have := ct_mono (pmn n m) (show y' ≤ y by omega)
        omega
  · rintro h1 ⟨F1, t, z1, I⟩
    have K1 := sp_fr K F1
    have T1 := I (4 * n) (Nat.le_refl _) rfl
    have t3 := TT_3 P Fl (Nat.le_refl _) T1
    refine X4_spell_6 ⟨o7 K1, fun _ => ⟨o3 K1, ?_⟩, fun w => absurd (by rw [fr_f F1 7 (by decide), L.2.2.2.2.1]; exact (nI_leI (by omega) (by omega)).mpr (Nat.le_refl _)) w⟩
    rw [fr_f F1 7 (by decide), hl]
    refine c_numadd (b := 3) (o3 K1) (r3_0 K1) (sp_x K1 4 (by decide) rfl) (by decide) z1 (by omega) _ (fun h5 F5 g3 g4 => ⟨_, rfl, ?_⟩)
    have g4' : ah_i h5 4 = u1 (ah_i h1 4) t (-2 - nI l) := g4
    exact k h5 t (fr_trans F1 F5) g3 (by omega) (TT_congr _ _ _ _ T1 (fun k hk => by rw [g4', u1_n _ _ (by omega)])) (by rw [g4', u1_s])
/-- the reference's tape while it is spelt -/
def MT (h h' : AH) : Prop := fr [168, 191] h h' ∧ ∀ k, k ≠ 29 → ah_f h' 168 k = ah_f h 168 k
theorem MT_trans {h h1 h2 : AH} (x : MT h h1) (y : MT h1 h2) : MT h h2 := ⟨fr_trans x.1 y.1, fun k hk => (y.2 k hk).trans (x.2 k hk)⟩
/-- a number more on the tape -/
theorem MT_put {t : Nat} {v : Int32} {h1 h2 : AH} (e1 : h1 = ah_si h 191 t v) (e2 : h2 = ah_sf h1 168 29 (nI (t + 1))) : MT h h2 ∧ ah_f h2 168 29 = nI (t + 1) ∧ ah_i h2 191 = u1 (ah_i h 191) t v := by
  refine ⟨⟨by rw [e2, e1]; exact fr_sf (fr_si (fr_refl _ h) (by decide)) (by decide), fun k hk => ?_⟩, ?_, ?_⟩
  · rw [e2, f_sf_s, u1_n _ _ hk, e1, f_si]
  · rw [e2, f_sf_s, u1_s]
  · rw [e2, i_sf, e1, i_si_s]
theorem m_gauss_body {p0 q f y t : Nat} {pa : Nat → Int32} (K : sp h) (P : Pr n A m) (h40 : n ≤ 40) (hm : ∀ e, e < 4 * n → ah_i h 176 e = nI (m e)) (g : PL n m pa (ah_i h 182) (nI 1) (nI 0)) (hyl : y < 4 * n) (hf : f < 4 * n) (ht : ah_f h 168 29 = nI t) (ht2 : t < 129)
    (k1 : tu m f ≠ y → ∀ h1, MT h h1 → ah_f h1 168 29 = nI (t + 1) → ah_i h1 191 = u1 (ah_i h 191) t (nI (wd n m f)) → ex_G mX12_gauss (d + 5) 61 [.ref 168, .int (nI p0), .retAddr 0, .retAddr 0, .int (nI q), .int (nI y), .int (nI (tu m f)), .retAddr 0] [] h1 bc bs Q)
    (k2 : tu m f = y → ∀ h1, MT h h1 → ah_f h1 168 29 = nI (t + 2) → ah_i h1 191 = u1 (u1 (ah_i h 191) t (nI (wd n m f))) (t + 1) m1 → ex_G mX12_gauss (d + 5) 29 [.ref 168, .int (nI p0), .retAddr 0, .retAddr 0, .int (nI q), .int (nI (y + 1)), .retAddr 0, .retAddr 0] [] h1 bc bs Q) : ex_G mX12_gauss (d + 5) 61 [.ref 168, .int (nI p0), .retAddr 0, .retAddr 0, .int (nI q), .int (nI y), .int (nI f), .retAddr 0] [] h bc bs Q := by
  have hml := P.lt hf
  refine X12_gauss_61 ⟨o168 K, 176, r168_10 K, (s176 K _).mpr ((ix_nI (by omega)).mpr (by omega)), fun x4 e4 => ?_⟩
  rw [nI_clamp (by omega), hm f hf] at e4
  subst e4
  have im : im_ (nI (m f)) 2 = nI (m f % 2) := im_nI (d := 2) (by omega) (by omega) (by omega)
  have dv : nI (m f) / 4 = nI (m f / 4) := pk_div (d := 4) (by omega) (by omega) (by omega)
  have ml : nI (m f / 4) * 4 = nI (m f / 4 * 4) := pk_mul _ 4
  have i1 : nI (m f % 2) = 1 ↔ m f % 2 = 1 := nI_eq (b := 1) (by omega) (by omega)
  rw [im, dv, ml, ht, i1]
  have go : ∀ b : Nat, b = 2 * (m f % 2) → ex_G mX12_gauss (d + 5) 97 [.ref 168, .int (nI p0), .retAddr 0, .retAddr 0, .int (nI q), .int (nI y), .retAddr 0, .int (nI (m f))] [.int (nI b), .int (nI (m f / 4 * 4)), .int (nI t), .ref 191] h bc bs Q := by
    intro b eb
    refine X12_gauss_97 ⟨o168 K, ?_⟩
    rw [dv, nI_add]
    refine m_signAt (d := d + 3) K P h40 g (c := m f / 4) (by omega) ⟨_, rfl, ?_⟩
    have fin : ∀ b' : Nat, wd n m f = m f / 4 * 4 + b + b' → b' ≤ 1 → ex_G mX12_gauss (d + 5) 115 [.ref 168, .int (nI p0), .retAddr 0, .retAddr 0, .int (nI q), .int (nI y), .retAddr 0, .int (nI (m f))] [.int (nI b'), .int (nI (m f / 4 * 4 + b)), .int (nI t), .ref 191] h bc bs Q := by
      intro b' eb' hb'
      refine X12_gauss_115 ⟨(t191 K _).mpr ((ix_nI (by omega)).mpr (by omega)), fun h1 e1 => ?_⟩
      rw [nI_add, ← eb', nI_clamp (by omega)] at e1
      have K1 : sp h1 := sp_fr K (L := [191]) (by rw [e1]; exact fr_si (fr_refl _ h) (by decide))
      have t1 : ah_f h1 168 29 = nI t := by rw [e1, f_si]; exact ht
      refine ⟨o168 K1, fun h4 e4 x5 e5 => ?_⟩
      have et : nI t + 1 = nI (t + 1) := nI_add t 1
      rw [t1, et] at e4
      obtain ⟨M4, f4, i4⟩ := MT_put e1 e4
      have K4 := sp_fr K M4.1
      have e5' : x5 = nI (tu m f) := by rw [e5]; exact tuV 2 (by omega) (by omega) h4
      clear e5
      subst e5'
      have tl := tu_lt P hf
      rw [nI_eq (by omega) (by omega)]
      refine ⟨fun w => k1 w h4 M4 f4 i4, fun w => ⟨191, r168_28 K4, ?_⟩⟩
      rw [f4, nI_clamp (by omega)]
      refine ⟨(t191 K4 _).mpr ((ix_nI (by omega)).mpr (by omega)), fun h8 e8 h10 e10 x11 e11 => ?_⟩
      have t8 : ah_f h8 168 29 = nI (t + 1) := by rw [e8, f_si]; exact f4
      have et2 : nI (t + 1) + 1 = nI (t + 1 + 1) := nI_add (t + 1) 1
      rw [t8, et2] at e10
      obtain ⟨M10, f10, i10⟩ := MT_put e8 e10
      have e11' : x11 = nI (y + 1) := by rw [e11]; exact nI_add _ 1
      rw [e11']
      exact k2 w h10 (MT_trans M4 M10) f10 (by rw [i10, i4]; rfl)
    refine ⟨fun w => fin 0 ?_ (by omega), fun w => fin 1 ?_ (by omega)⟩
    · unfold wd
      rw [if_neg (show ¬ sgn n m (m f / 4) = nI 1 from w)]
      omega
    · unfold wd
      rw [if_pos (show sgn n m (m f / 4) = nI 1 from w)]
      omega
  refine ⟨191, r168_28 K, fun w => go 0 (by omega), fun w => go 2 (by omega)⟩
theorem m_gauss_loop {p0 l : Nat} (K : sp h) (P : Pr n A m) (h40 : n ≤ 40) (Fl : nR n m = n + 2 * nP n m) (hp0 : p0 < 368) (hn : ah_i h 170 p0 = nI n) (hl : ah_i h 171 p0 = nI l) (hm : ∀ e, e < 4 * n → ah_i h 176 e = nI (m e)) (g : PL n m (ah_i h 181) (ah_i h 182) (nI 1) (nI 0)) (z0 : ah_f h 168 29 = nI 0)
    (k : ∀ h' t, MT h h' → ah_f h' 168 29 = nI (t + 1) → t ≤ 120 → TT n m (4 * n) (ah_i h' 191) t → ah_i h' 191 t = -2 - nI l → Q (some (.int (nI (t + 1)))) (mNo h' (nI 0))) : ex_G mX12_gauss (d + 5) 29 [.ref 168, .int (nI p0), .retAddr 0, .retAddr 0, .int (nI 0), .int (nI 0), .retAddr 0, .retAddr 0] [] h bc bs Q := by
  have fo : (4 : Int32) * nI n = nI (4 * n) := pk_mul 4 n
  refine lp (4 * n) (fun e h' => MT h h' ∧ ∃ t, ah_f h' 168 29 = nI t ∧ TT n m e (ah_i h' 191) t) (fun e h' => ex_G mX12_gauss (d + 5) 29 [.ref 168, .int (nI p0), .retAddr 0, .retAddr 0, .int (nI (ct (pmn n m) e)), .int (nI e), .retAddr 0, .retAddr 0] [] h' bc bs Q) ⟨⟨fr_refl _ h, fun _ _ => rfl⟩, 0, z0, rfl⟩ ?_ ?_
  · rintro e h1 he ⟨M1, t, z1, T1⟩ nx
    have K1 := sp_fr K M1.1
    have cl_ := ct_le (pmn n m) e
    refine X12_gauss_29 ⟨o168 K1, 170, r168_2 K1, (s170 K1 _).mpr ((ix_nI (by omega)).mpr (by omega)), ?_⟩
    rw [nI_clamp (by omega), fr_i M1.1 170 (by decide), hn, fo, nI_leI (by omega) (by omega)]
    refine ⟨fun w => by omega, fun _ => ⟨181, r168_16 K1, (s181 K1 _).mpr ((ix_nI (by omega)).mpr (by omega)), ?_⟩⟩
    rw [nI_clamp (by omega), fr_i M1.1 181 (by decide)]
    by_cases pe : pmn n m e
    · rw [(g e he).1 e he pe (pcl_refl e)]
      refine ⟨fun w => absurd rfl w, fun _ x17 e17 => ?_⟩
      have e17' : x17 = nI (ct (pmn n m) e + 1) := by rw [e17]; exact nI_add _ 1
      rw [e17', ← ct_y pe]
      obtain ⟨p, hp, hpl⟩ := isP_ex (tuP P) he
      have fit := TT_fit P Fl he T1 pe hp
      have p1 := hp.1
      refine lp (p - 1) (fun i h' => MT h h' ∧ ah_f h' 168 29 = nI (t + i) ∧ (∀ k, k < t → ah_i h' 191 k = ah_i h1 191 k) ∧ ∀ i', i' < i → ah_i h' 191 (t + i') = nI (wd n m (it (tu m) i' e))) (fun i h' => ex_G mX12_gauss (d + 5) 61 [.ref 168, .int (nI p0), .retAddr 0, .retAddr 0, .int (nI (ct (pmn n m) (e + 1))), .int (nI e), .int (nI (it (tu m) i e)), .retAddr 0] [] h' bc bs Q) ⟨M1, z1, fun _ _ => rfl, fun i hi => absurd hi (Nat.not_lt_zero i)⟩ ?_ ?_
      · rintro i h2 hi ⟨M2, z2, c2, w2⟩ nx2
        have hlt := it_lt (tuP P) he i
        refine m_gauss_body (t := t + i) (pa := ah_i h 181) (sp_fr K M2.1) P h40 (fun e he => by rw [fr_i M2.1 176 (by decide)]; exact hm e he) (by rw [fr_i M2.1 182 (by decide)]; exact g) he hlt z2 (by omega) (fun _ h4 M4 g1 g2 => ?_) (fun w => absurd (by rw [it_s]; exact w) (hp.2.2 (i + 1) (by omega) (by omega)))
        have := nx2 h4 ⟨MT_trans M2 M4, by rw [g1]; rfl, fun k hk => by rw [g2, u1_n _ _ (by omega)]; exact c2 k hk, fun i' hi' => ?_⟩
        · rw [it_s] at this
          exact this
        · rw [g2]
          by_cases w : i' = i
          · rw [w, u1_s]
          · rw [u1_n _ _ (by omega)]; exact w2 i' (by omega)
      · rintro h2 ⟨M2, z2, c2, w2⟩
        have hlt := it_lt (tuP P) he (p - 1)
        have cyc : tu m (it (tu m) (p - 1) e) = e := by
          have := hp.2.1
          rw [show p = p - 1 + 1 by omega, it_s] at this
          exact this
        refine m_gauss_body (t := t + (p - 1)) (pa := ah_i h 181) (sp_fr K M2.1) P h40 (fun e he => by rw [fr_i M2.1 176 (by decide)]; exact hm e he) (by rw [fr_i M2.1 182 (by decide)]; exact g) he hlt z2 (by omega) (fun w => absurd cyc w) (fun _ h4 M4 g1 g2 => ?_)
        rw [show t + (p - 1) + 2 = t + p + 1 by omega] at g1
        rw [show t + (p - 1) + 1 = t + p by omega] at g2
        refine nx h4 ⟨MT_trans M2 M4, t + p + 1, g1, TT_next T1 pe hp (fun k hk => by rw [g2, u1_n _ _ (by omega), u1_n _ _ (by omega)]; exact c2 k hk) (fun i hi => ?_) (by rw [g2, u1_s])⟩
        rw [g2, u1_n _ _ (by omega)]
        by_cases w : i = p - 1
        · rw [w, u1_s]
        · rw [u1_n _ _ (by omega)]; exact w2 i (by omega)
    · obtain ⟨y, hy, py, o⟩ := pmn_ex P he
      have ye : y ≠ e := fun w => pe (w ▸ py)
      have lt := ct_lt (p := pmn n m) (show y < e by omega) py
      rw [(g e he).1 y (by omega) py o, nI_eq (by omega) (by omega)]
      refine ⟨fun _ x16 e16 => ?_, fun w => by omega⟩
      have e16' : x16 = nI (e + 1) := by rw [e16]; exact nI_add _ 1
      have := nx h1 ⟨M1, t, z1, Or.inr ⟨pe, T1⟩⟩
      rw [ct_n pe] at this
      rw [e16']
      exact this
  · rintro h1 ⟨M1, t, z1, T1⟩
    have K1 := sp_fr K M1.1
    have t3 := TT_3 P Fl (Nat.le_refl _) T1
    refine X12_gauss_29 ⟨o168 K1, 170, r168_2 K1, (s170 K1 _).mpr ((ix_nI (by omega)).mpr (by omega)), ?_⟩
    rw [nI_clamp (by omega), fr_i M1.1 170 (by decide), hn, fo, nI_leI (by omega) (by omega)]
    refine ⟨fun _ => ⟨191, r168_28 K1, 171, r168_3 K1, (s171 K1 _).mpr ((ix_nI (by omega)).mpr (by omega)), ?_⟩, fun w => absurd (Nat.le_refl _) w⟩
    rw [z1, nI_clamp (by omega), fr_i M1.1 171 (by decide), hl]
    refine ⟨(t191 K1 _).mpr ((ix_nI (by omega)).mpr (by omega)), fun h8 e8 h10 e10 => ?_⟩
    have t8 : ah_f h8 168 29 = nI t := by rw [e8, f_si]; exact z1
    have et2 : nI t + 1 = nI (t + 1) := nI_add t 1
    rw [t8, et2] at e10
    obtain ⟨M10, f10, i10⟩ := MT_put e8 e10
    refine ⟨weC (sp_fr K1 M10.1) _, fun h12 e12 => ?_⟩
    have e12' : h12 = mNo h10 (nI 0) := e12
    rw [e12', weV, f10]
    exact k h10 t (MT_trans M1 M10) f10 (by omega) (TT_congr _ _ _ _ T1 (fun k hk => by rw [i10, u1_n _ _ (by omega)])) (by rw [i10, u1_s])
end GAUSS
