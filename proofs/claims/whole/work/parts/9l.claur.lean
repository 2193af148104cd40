/-! The class's Laurent polynomials. -/
def iI (k : Int) : Int32 := Int32.ofInt k
theorem iI_toInt {a : Int} (h1 : -1000000000 ≤ a) (h2 : a ≤ 1000000000) : (iI a).toInt = a := Int32.toInt_ofInt_of_le (by omega) (by omega)
theorem iI_n (n : Nat) : iI (n : Int) = nI n := rfl
theorem iI_add (a b : Int) : iI a + iI b = iI (a + b) := (Int32.ofInt_add a b).symm
theorem iI_sub (a b : Int) : iI a - iI b = iI (a - b) := (Int32.ofInt_sub a b).symm
theorem iI_mul (a b : Int) : iI a * iI b = iI (a * b) := (Int32.ofInt_mul a b).symm
theorem iI_lt {a b : Int} (h1 : -1000000000 ≤ a) (h2 : a ≤ 1000000000) (h3 : -1000000000 ≤ b) (h4 : b ≤ 1000000000) : iI a < iI b ↔ a < b := by rw [Int32.lt_iff_toInt_lt, iI_toInt h1 h2, iI_toInt h3 h4]
theorem iI_le {a b : Int} (h1 : -1000000000 ≤ a) (h2 : a ≤ 1000000000) (h3 : -1000000000 ≤ b) (h4 : b ≤ 1000000000) : iI a ≤ iI b ↔ a ≤ b := by rw [Int32.le_iff_toInt_le, iI_toInt h1 h2, iI_toInt h3 h4]
theorem iI_nat {a : Int} (h : 0 ≤ a) : ∃ n : Nat, (n : Int) = a ∧ iI a = nI n := ⟨a.toNat, by omega, by rw [← iI_n]; congr 1; omega⟩
/-- only Laurent b has changed -/
def fL (b : Nat) (h h' : AH) : Prop := ah_n h' = ah_n h ∧ ah_k h' = ah_k h ∧ ah_q h' = ah_q h ∧ (∀ a, a ≠ b → ah_r h' a = ah_r h a ∧ ah_f h' a = ah_f h a) ∧ ah_i h' = ah_i h ∧ ∀ a, a ≠ b + 1 → a ≠ b + 2 → ah_l h' a = ah_l h a
/-- Laurent b: row x is P, row y is spare -/
def LA (h : AH) (b x y : Nat) (P : Int → Int) : Prop := ((x = b + 1 ∧ y = b + 2) ∨ (x = b + 2 ∧ y = b + 1)) ∧ ah_r h b 0 = some x ∧ ah_r h b 1 = some y ∧ ∀ k : Nat, k < 281 → ah_l h x k = Int64.ofInt (P ((k : Int) - 140))
def hb3 (b : Nat) : Prop := b = 73 ∨ b = 76 ∨ b = 79
def sup140 (P : Int → Int) : Prop := ∀ k, k < -140 ∨ 140 < k → P k = 0
section LAU
variable {h h' h2 : AH} {d bc bs b x y : Nat} {Q : Option Value → AH → Prop} {P : Int → Int}
theorem fL_refl (b : Nat) (h : AH) : fL b h h := ⟨rfl, rfl, rfl, fun _ _ => ⟨rfl, rfl⟩, rfl, fun _ _ _ => rfl⟩
theorem fL_trans (x : fL b h h') (y : fL b h' h2) : fL b h h2 := ⟨y.1.trans x.1, y.2.1.trans x.2.1, y.2.2.1.trans x.2.2.1, fun a ha => ⟨(y.2.2.2.1 a ha).1.trans (x.2.2.2.1 a ha).1, (y.2.2.2.1 a ha).2.trans (x.2.2.2.1 a ha).2⟩, y.2.2.2.2.1.trans x.2.2.2.2.1, fun a h1 h2 => (y.2.2.2.2.2 a h1 h2).trans (x.2.2.2.2.2 a h1 h2)⟩
theorem fL_sl {k : Nat} {v : Int64} (h : AH) (hx : x = b + 1 ∨ x = b + 2) : fL b h (ah_sl h x k v) := ⟨n_sl _ _ _ _, k_sl _ _ _ _, q_sl _ _ _ _, fun a _ => ⟨by rw [r_sl], by rw [f_sl]⟩, i_sl _ _ _ _, fun a h1 h2 => l_sl_n _ _ _ _ _ (by omega)⟩
theorem fL_wl {g : Nat → Int64} (h : AH) (hx : x = b + 1 ∨ x = b + 2) : fL b h (ah_wl h x g) := ⟨n_wl _ _ _, k_wl _ _ _, q_wl _ _ _, fun a _ => ⟨by rw [r_wl], by rw [f_wl]⟩, i_wl _ _ _, fun a h1 h2 => l_wl_n _ _ _ _ (by omega)⟩
theorem fL_sf {k : Nat} {v : Int32} (h : AH) : fL b h (ah_sf h b k v) := ⟨n_sf _ _ _ _, k_sf _ _ _ _, q_sf _ _ _ _, fun a ha => ⟨by rw [r_sf], f_sf_n _ _ _ _ _ ha⟩, i_sf _ _ _ _, fun a h1 h2 => by rw [l_sf]⟩
theorem fL_sr {k : Nat} {v : Option Nat} (h : AH) : fL b h (ah_sr h b k v) := ⟨n_sr _ _ _ _, k_sr _ _ _ _, q_sr _ _ _ _, fun a ha => ⟨r_sr_n _ _ _ _ _ ha, by rw [f_sr]⟩, i_sr _ _ _ _, fun a h1 h2 => by rw [l_sr]⟩
theorem hb3_R0 : ∀ t ∈ R0L, t.1 ≠ 73 ∧ t.1 ≠ 76 ∧ t.1 ≠ 79 := by decide +kernel
theorem sp_fL (K : sp h) (hb : hb3 b) (F : fL b h h') : sp h' := ⟨by rw [F.1]; exact K.1, by rw [F.2.1]; exact K.2.1, fun t ht => by
  have := hb3_R0 t ht
  rw [(F.2.2.2.1 t.1 (by unfold hb3 at hb; omega)).1]
  exact K.2.2 t ht⟩
theorem la_o (K : sp h) (hb : hb3 b) : ah_o h b 2 := by
  rcases hb with e | e | e
  · rw [e]; exact o73 K
  · rw [e]; exact o76 K
  · rw [e]; exact o79 K
theorem la_x (K : sp h) (hb : hb3 b) (hx : x = b + 1 ∨ x = b + 2) : ah_x h x 2 281 := by
  have e : x = 74 ∨ x = 75 ∨ x = 77 ∨ x = 78 ∨ x = 80 ∨ x = 81 := by unfold hb3 at hb; omega
  rcases e with e | e | e | e | e | e
  · rw [e]; exact sp_x K 74 (by decide) rfl
  · rw [e]; exact sp_x K 75 (by decide) rfl
  · rw [e]; exact sp_x K 77 (by decide) rfl
  · rw [e]; exact sp_x K 78 (by decide) rfl
  · rw [e]; exact sp_x K 80 (by decide) rfl
  · rw [e]; exact sp_x K 81 (by decide) rfl
theorem LA_xb (L : LA h b x y P) : (x = b + 1 ∨ x = b + 2) ∧ (y = b + 1 ∨ y = b + 2) ∧ x ≠ y := by have := L.1; omega
theorem c_lempty (K : sp h) (hb : hb3 b) (L : LA h b x y P) (k : ∀ h', fL b h h' → LA h' b x y (fun _ => 0) → ah_f h' b 2 = nI 1 → Q none h') : ex_S yX2_empty mX2_empty (d + 1) [.ref b] h bc bs Q := by
  obtain ⟨x1, x2, x3⟩ := LA_xb L
  refine X2_empty_e (X2_empty_0 ⟨la_o K hb, x, L.2.1, j_filll (la_x K hb x1) (by decide) 0 ⟨rfl, ?_⟩⟩)
  have F1 : fL b h (ah_wl h x (fl (ah_l h x) 281 0)) := fL_wl h x1
  have g1 : ah_l (ah_wl h x (fl (ah_l h x) 281 0)) x = fl (ah_l h x) 281 0 := l_wl_s _ _ _
  have r1 : ah_r (ah_wl h x (fl (ah_l h x) 281 0)) = ah_r h := r_wl _ _ _
  generalize ah_wl h x (fl (ah_l h x) 281 0) = h1 at F1 g1 r1 ⊢
  refine ⟨la_o (sp_fL K hb F1) hb, fun h5 e5 => k h5 (by rw [e5]; exact fL_trans F1 (fL_sf h1)) ⟨L.1, by rw [e5, r_sf, r1]; exact L.2.1, by rw [e5, r_sf, r1]; exact L.2.2.1, fun j hj => ?_⟩ (by rw [e5, f_sf_s]; exact u1_s _ _ _)⟩
  rw [e5, l_sf, g1, fl_in hj]
  rfl
theorem v140 {p : Int} (h1 : -140 ≤ p) (h2 : p ≤ 140) : ¬ iI p < -140 ∧ ¬ 140 < iI p ∧ ∃ n : Nat, (n : Int) = p + 140 ∧ n < 281 ∧ iI p + 140 = nI n := by
  have e1 : iI p < -140 ↔ p < -140 := iI_lt (b := -140) (by omega) (by omega) (by omega) (by omega)
  have e2 : 140 < iI p ↔ 140 < p := iI_lt (a := 140) (by omega) (by omega) (by omega) (by omega)
  obtain ⟨n, q1, q2⟩ := iI_nat (a := p + 140) (by omega)
  refine ⟨fun w => by have := e1.mp w; omega, fun w => by have := e2.mp w; omega, n, q1, by omega, ?_⟩
  rw [← q2, ← iI_add]
  rfl
theorem c_ladd (K : sp h) (hb : hb3 b) (L : LA h b x y P) {p t : Int} (h1 : -140 ≤ p) (h2 : p ≤ 140) (k : ∀ h', ah_f h' = ah_f h → fL b h h' → LA h' b x y (fun j => P j + if j = p then t else 0) → Q none h') : ex_S yX2_add mX2_add d [.ref b, .int (iI p), .long (Int64.ofInt t)] h bc bs Q := by
  obtain ⟨x1, x2, x3⟩ := LA_xb L
  obtain ⟨v1, v2, n, n1, n2, n3⟩ := v140 h1 h2
  refine X2_add_e (X2_add_0 ⟨fun w => absurd w v1, fun _ => ⟨fun w => absurd w v2, fun _ => ⟨la_o K hb, x, L.2.1, ?_⟩⟩⟩)
  rw [n3, nI_clamp (by omega)]
  refine ⟨(ld2_x (la_x K hb x1) _).mpr ((ix_nI (by omega)).mpr n2), fun h6 e6 => k h6 (by rw [e6, f_sl]) (by rw [e6]; exact fL_sl h x1) ⟨L.1, by rw [e6, r_sl]; exact L.2.1, by rw [e6, r_sl]; exact L.2.2.1, fun j hj => ?_⟩⟩
  rw [e6, l_sl_s]
  show _ = Int64.ofInt (P ((j : Int) - 140) + if (j : Int) - 140 = p then t else 0)
  by_cases z : j = n
  · rw [z, u1_s, if_pos (by omega), Int64.ofInt_add, L.2.2.2 n n2]
  · rw [u1_n _ _ z, if_neg (by omega), Int.add_zero]
    exact L.2.2.2 j hj
theorem numAt (K : sp h) (hb : hb3 b) (L : LA h b x y P) (S : sup140 P) {q : Int} (h1 : -1000 ≤ q) (h2 : q ≤ 1000) : X2_numberAt_C b (iI q) h ∧ X2_numberAt_V b (iI q) h = Int64.ofInt (P q) := by
  obtain ⟨x1, x2, x3⟩ := LA_xb L
  have e1 : iI q < -140 ↔ q < -140 := iI_lt (b := -140) (by omega) (by omega) (by omega) (by omega)
  have e2 : 140 < iI q ↔ 140 < q := iI_lt (a := 140) (by omega) (by omega) (by omega) (by omega)
  by_cases c : -140 ≤ q ∧ q ≤ 140
  · obtain ⟨v1, v2, n, n1, n2, n3⟩ := v140 c.1 c.2
    refine ⟨⟨fun _ => trivial, fun _ => ⟨fun _ => trivial, fun _ => ⟨la_o K hb, x, L.2.1, by rw [n3]; exact (ld2_x (la_x K hb x1) _).mpr ((ix_nI (by omega)).mpr n2), trivial⟩⟩⟩, ?_⟩
    unfold X2_numberAt_V
    rw [if_neg v1, if_neg v2, L.2.1, Option.getD_some, n3, nI_clamp (by omega), L.2.2.2 n n2, n1]
    congr 2
    omega
  · rw [S q (by omega)]
    refine ⟨⟨fun _ => trivial, fun w => ⟨fun _ => trivial, fun w2 => absurd ⟨by rw [e1] at w; omega, by rw [e2] at w2; omega⟩ c⟩⟩, ?_⟩
    unfold X2_numberAt_V
    by_cases w : iI q < -140
    · rw [if_pos w]; rfl
    · rw [if_neg w, if_pos (e2.mpr (by rw [e1] at w; omega))]; rfl
theorem swapC (K : sp h) (hb : hb3 b) (L : LA h b x y P) : X2_swapRows_C b h ∧ ∀ h', h' = X2_swapRows_H b h → fL b h h' ∧ ah_r h' b 0 = some y ∧ ah_r h' b 1 = some x ∧ ah_l h' = ah_l h ∧ ah_f h' = ah_f h := by
  refine ⟨⟨la_o K hb, x, L.2.1, y, L.2.2.1, trivial⟩, fun h' e => ?_⟩
  unfold X2_swapRows_H at e
  rw [L.2.1, L.2.2.1, Option.getD_some, Option.getD_some] at e
  refine ⟨by rw [e]; exact fL_trans (fL_sr h) (fL_sr _), ?_, ?_, by rw [e, l_sr, l_sr], by rw [e, f_sr, f_sr]⟩
  · rw [e, r_sr_s, u1_n _ _ (by decide), r_sr_s, u1_s]
  · rw [e, r_sr_s, u1_s]
/-- a loop that fills the spare row, and the swap -/
theorem c_lmul (K : sp h) (hb : hb3 b) (L : LA h b x y P) (S : sup140 P) (k : ∀ h', fL b h h' → LA h' b y x (dl P) → ah_f h' b = ah_f h b → Q none h') : ex_S yX2_multiplyByCircle mX2_multiplyByCircle (d + 1) [.ref b] h bc bs Q := by
  obtain ⟨x1, x2, x3⟩ := LA_xb L
  have l3 : (-140 : Int32) = iI (((0 : Nat) : Int) - 140) := by decide
  refine X2_multiplyByCircle_e (X2_multiplyByCircle_0 ?_)
  rw [l3]
  refine lp 281 (fun j h' => fL b h h' ∧ ah_r h' = ah_r h ∧ ah_f h' = ah_f h ∧ ah_l h' x = ah_l h x ∧ ∀ i : Nat, i < j → ah_l h' y i = Int64.ofInt (dl P ((i : Int) - 140))) (fun j h' => ex_G mX2_multiplyByCircle (d + 1) 4 [.ref b, .int (iI ((j : Int) - 140))] [] h' bc bs Q) ⟨fL_refl b h, rfl, rfl, rfl, fun i hi => absurd hi (Nat.not_lt_zero i)⟩ ?_ ?_
  · rintro j h1 hj ⟨F1, r1, f1, l1, I⟩ nx
    have K1 := sp_fL K hb F1
    have L1 : LA h1 b x y P := ⟨L.1, by rw [r1]; exact L.2.1, by rw [r1]; exact L.2.2.1, fun i hi => by rw [l1]; exact L.2.2.2 i hi⟩
    obtain ⟨v1, v2, n, n1, n2, n3⟩ := v140 (p := (j : Int) - 140) (by omega) (by omega)
    have nj : n = j := by omega
    subst nj
    have m2 : iI ((n : Int) - 140) - 2 = iI ((n : Int) - 140 - 2) := iI_sub _ 2
    have p2 : iI ((n : Int) - 140) + 2 = iI ((n : Int) - 140 + 2) := iI_add _ 2
    have p1 : iI ((n : Int) - 140) + 1 = iI (((n + 1 : Nat) : Int) - 140) := by
      have : iI ((n : Int) - 140) + 1 = iI ((n : Int) - 140 + 1) := iI_add _ 1
      rw [this]
      congr 1
      omega
    have A1 := numAt K1 hb L1 S (q := (n : Int) - 140 - 2) (by omega) (by omega)
    have A2 := numAt K1 hb L1 S (q := (n : Int) - 140 + 2) (by omega) (by omega)
    refine X2_multiplyByCircle_4 ⟨fun w => absurd w v2, fun _ => ⟨la_o K1 hb, y, L1.2.2.1, ?_⟩⟩
    rw [m2, p2, p1, n3, nI_clamp (by omega), A1.2, A2.2]
    refine ⟨A1.1, A2.1, (ld2_x (la_x K1 hb x2) _).mpr ((ix_nI (by omega)).mpr n2), fun h9 e9 x11 e11 => ?_⟩
    rw [e11]
    refine nx h9 ⟨by rw [e9]; exact fL_trans F1 (fL_sl h1 x2), by rw [e9, r_sl]; exact r1, by rw [e9, f_sl]; exact f1, by rw [e9, l_sl_n _ _ _ _ _ x3]; exact l1, fun i hi => ?_⟩
    rw [e9, l_sl_s]
    by_cases z : i = n
    · rw [z, u1_s]
      unfold dl
      rw [Int64.ofInt_sub, Int64.ofInt_neg]
    · rw [u1_n _ _ z]; exact I i (by omega)
  · rintro h1 ⟨F1, r1, f1, l1, I⟩
    have K1 := sp_fL K hb F1
    have L1 : LA h1 b x y P := ⟨L.1, by rw [r1]; exact L.2.1, by rw [r1]; exact L.2.2.1, fun i hi => by rw [l1]; exact L.2.2.2 i hi⟩
    obtain ⟨c1, c2⟩ := swapC K1 hb L1
    refine X2_multiplyByCircle_4 ⟨fun _ => ⟨la_o K1 hb, c1, fun h4 e4 => ?_⟩, fun w => absurd ((iI_lt (a := 140) (b := ((281 : Nat) : Int) - 140) (by omega) (by omega) (by omega) (by omega)).mpr (by omega)) w⟩
    obtain ⟨d1, d2, d3, d4, d5⟩ := c2 h4 e4
    exact k h4 (fL_trans F1 d1) ⟨by have := L.1; omega, d2, d3, fun i hi => by rw [d4]; exact I i hi⟩ (by rw [d5, f1])
/-- what levelOut makes of P -/
def lev (w : Int) (P : Int → Int) (k : Int) : Int := (if w % 2 = 1 then -1 else 1) * P (k + 3 * w)
theorem odd14 {w : Int} (h1 : -14 ≤ w) (h2 : w ≤ 14) : ((iI w &&& 1 = 1) ↔ w % 2 = 1) ∧ (im_ (iI w) 2 = 0 ↔ ¬ w % 2 = 1) := by
  have key : ∀ i : Nat, i < 29 → ((iI ((i : Int) - 14) &&& 1 = 1) ↔ ((i : Int) - 14) % 2 = 1) ∧ (im_ (iI ((i : Int) - 14)) 2 = 0 ↔ ¬ ((i : Int) - 14) % 2 = 1) := by decide
  have := key (w + 14).toNat (by omega)
  rw [show (((w + 14).toNat : Nat) : Int) - 14 = w by omega] at this
  exact this
theorem c_llevel (K : sp h) (hb : hb3 b) (L : LA h b x y P) (S : sup140 P) {w : Int} (h1 : -14 ≤ w) (h2 : w ≤ 14) (k : ∀ h', fL b h h' → LA h' b y x (lev w P) → ah_f h' b = ah_f h b → Q none h') : ex_S yX2_levelOut mX2_levelOut (d + 1) [.ref b, .int (iI w)] h bc bs Q := by
  obtain ⟨x1, x2, x3⟩ := LA_xb L
  have w3 : (3 : Int32) * iI w = iI (3 * w) := iI_mul 3 w
  have go : ∀ f : Int, (f = if w % 2 = 1 then -1 else 1) → ex_G mX2_levelOut (d + 1) 17 [.ref b, .int (iI w), .int (iI f), .int (iI (((0 : Nat) : Int) - 140))] [] h bc bs Q := fun f hf => by
    have f64 : Int32.toInt64 (iI f) = Int64.ofInt f := Int32.toInt64_ofInt (by rw [hf]; split <;> decide) (by rw [hf]; split <;> decide)
    refine lp 281 (fun j h' => fL b h h' ∧ ah_r h' = ah_r h ∧ ah_f h' = ah_f h ∧ ah_l h' x = ah_l h x ∧ ∀ i : Nat, i < j → ah_l h' y i = Int64.ofInt (lev w P ((i : Int) - 140))) (fun j h' => ex_G mX2_levelOut (d + 1) 17 [.ref b, .int (iI w), .int (iI f), .int (iI ((j : Int) - 140))] [] h' bc bs Q) ⟨fL_refl b h, rfl, rfl, rfl, fun i hi => absurd hi (Nat.not_lt_zero i)⟩ ?_ ?_
    · rintro j h1 hj ⟨F1, r1, f1, l1, I⟩ nx
      have K1 := sp_fL K hb F1
      have L1 : LA h1 b x y P := ⟨L.1, by rw [r1]; exact L.2.1, by rw [r1]; exact L.2.2.1, fun i hi => by rw [l1]; exact L.2.2.2 i hi⟩
      obtain ⟨v1, v2, n, n1, n2, n3⟩ := v140 (p := (j : Int) - 140) (by omega) (by omega)
      have nj : n = j := by omega
      subst nj
      have p1 : iI ((n : Int) - 140) + 1 = iI (((n + 1 : Nat) : Int) - 140) := by
        have : iI ((n : Int) - 140) + 1 = iI ((n : Int) - 140 + 1) := iI_add _ 1
        rw [this]
        congr 1
        omega
      have A1 := numAt K1 hb L1 S (q := (n : Int) - 140 + 3 * w) (by omega) (by omega)
      refine X2_levelOut_17 ⟨fun z => absurd z v2, fun _ => ⟨la_o K1 hb, y, L1.2.2.1, ?_⟩⟩
      rw [w3, iI_add, p1, n3, nI_clamp (by omega), A1.2, f64]
      refine ⟨A1.1, (ld2_x (la_x K1 hb x2) _).mpr ((ix_nI (by omega)).mpr n2), fun h9 e9 x11 e11 => ?_⟩
      rw [e11]
      refine nx h9 ⟨by rw [e9]; exact fL_trans F1 (fL_sl h1 x2), by rw [e9, r_sl]; exact r1, by rw [e9, f_sl]; exact f1, by rw [e9, l_sl_n _ _ _ _ _ x3]; exact l1, fun i hi => ?_⟩
      rw [e9, l_sl_s]
      by_cases z : i = n
      · rw [z, u1_s]
        unfold lev
        rw [Int64.ofInt_mul, hf]
      · rw [u1_n _ _ z]; exact I i (by omega)
    · rintro h1 ⟨F1, r1, f1, l1, I⟩
      have K1 := sp_fL K hb F1
      have L1 : LA h1 b x y P := ⟨L.1, by rw [r1]; exact L.2.1, by rw [r1]; exact L.2.2.1, fun i hi => by rw [l1]; exact L.2.2.2 i hi⟩
      obtain ⟨c1, c2⟩ := swapC K1 hb L1
      refine X2_levelOut_17 ⟨fun _ => ⟨la_o K1 hb, c1, fun h4 e4 => ?_⟩, fun w => absurd ((iI_lt (a := 140) (b := ((281 : Nat) : Int) - 140) (by omega) (by omega) (by omega) (by omega)).mpr (by omega)) w⟩
      obtain ⟨d1, d2, d3, d4, d5⟩ := c2 h4 e4
      exact k h4 (fL_trans F1 d1) ⟨by have := L.1; omega, d2, d3, fun i hi => by rw [d4]; exact I i hi⟩ (by rw [d5, f1])
  have l1 : (-1 : Int32) = iI (-1) := by decide
  have l2 : (1 : Int32) = iI 1 := by decide
  have l3 : (-140 : Int32) = iI (((0 : Nat) : Int) - 140) := by decide
  refine X2_levelOut_e (X2_levelOut_0 ?_)
  rw [l3, l1]
  refine ⟨fun z => go 1 ?_, fun z => go (-1) ?_⟩
  · rw [if_neg (fun q => z ((odd14 h1 h2).1.mpr q))]
  · rw [if_pos ((odd14 h1 h2).1.mp z)]
theorem c_lcount (K : sp h) (hb : hb3 b) (hx : x = b + 1 ∨ x = b + 2) (r : ah_r h b 0 = some x) (k : Q (some (.int (nI (ct (fun j => ah_l h x j ≠ 0) 281)))) h) : ex_S yX2_countNumbers mX2_countNumbers d [.ref b] h bc bs Q := by
  refine X2_countNumbers_e (X2_countNumbers_0 ?_)
  refine lp 281 (fun j h' => h' = h) (fun j h' => ex_G mX2_countNumbers d 4 [.ref b, .int (nI (ct (fun j => ah_l h x j ≠ 0) j)), .int (nI j)] [] h' bc bs Q) rfl ?_ ?_
  · rintro j h1 hj rfl nx
    have c1 : (281 : Int32) ≤ nI j ↔ 281 ≤ j := nI_leI (a := 281) (by omega) (by omega)
    have e1 : nI j + 1 = nI (j + 1) := nI_add _ 1
    have st := nx h1 rfl
    refine X2_countNumbers_4 ⟨fun w => by have := c1.mp w; omega, fun _ => ⟨la_o K hb, x, r, (ld2_x (la_x K hb hx) _).mpr ((ix_nI (by omega)).mpr hj), ?_⟩⟩
    rw [nI_clamp (by omega)]
    refine ⟨fun w x6 e6 => ?_, fun w x7 e7 x8 e8 => ?_⟩
    · have z := (lgc0 _ _).mp w
      rw [ct_n (p := fun j => ah_l h1 x j ≠ 0) (fun q => q z)] at st
      rw [e6, e1]
      exact st
    · have z : ah_l h1 x j ≠ 0 := fun q => w ((lgc0 _ _).mpr q)
      rw [ct_y (p := fun j => ah_l h1 x j ≠ 0) z] at st
      have e7' : x7 = nI (ct (fun j => ah_l h1 x j ≠ 0) j + 1) := by rw [e7]; exact nI_add _ 1
      rw [e7', e8, e1]
      exact st
  · rintro h1 rfl
    exact X2_countNumbers_4 ⟨fun _ => k, fun w => absurd (show (281 : Int32) ≤ nI 281 by decide) w⟩
end LAU
