/-! Moves on the class's side: untwist, unpoke, slide. -/
def DC (h : AH) (b lb n l : Nat) (A m : Nat → Nat) : Prop := pt h b ∧ lk h lb ∧ (b + 3 ≤ lb ∨ lb + 11 ≤ b) ∧ cD h b n l A ∧ ah_f h lb 10 = nI n ∧ (∀ e, e < 4 * n → ah_i h (lb + 1) e = nI (m e)) ∧ n ≤ 40 ∧ l ≤ 9 ∧ Pr n A m
/-- which arcs there are -/
def us (n : Nat) (A : Nat → Nat) (x : Nat) : Prop := ∃ e, e < 4 * n ∧ A e = x
/-- the class's answer where the reference's is f -/
def ans (f : Nat) : Int32 := if f = 0 then nI 1 else -nI (10 + f)
def mvU (n l : Nat) (A m : Nat → Nat) (a : Int32) (f n' l' : Nat) (A' : Nat → Nat) : Prop := ((¬ ∃ e, e < 4 * n ∧ a = nI e ∧ m e = cn e 1) ∧ f = 5) ∨ ∃ e, e < 4 * n ∧ a = nI e ∧ m e = cn e 1 ∧ f = (if l' ≤ 9 then 0 else 8) ∧ n' = n - 1 ∧ l' = jl (A (cn e 2)) (A (cn e 3)) l ∧ A' = rmv (e / 4) (jn (A (cn e 2)) (A (cn e 3)) A)
def lens (m : Nat → Nat) (e : Nat) : Prop := cn (m (cn (m e) 3)) 3 = e ∧ m e / 4 ≠ e / 4 ∧ e % 2 = m e % 2
def mvP (n l : Nat) (A m : Nat → Nat) (a : Int32) (f n' l' : Nat) (A' : Nat → Nat) : Prop := ((¬ ∃ e, e < 4 * n ∧ a = nI e ∧ lens m e) ∧ f = 5) ∨ ∃ e, e < 4 * n ∧ a = nI e ∧ lens m e ∧ ∃ A1 l1, A1 = jn (A (cn e 2)) (A (cn (m e) 2)) A ∧ l1 = jl (A (cn e 2)) (A (cn (m e) 2)) l ∧ f = (if l' ≤ 9 then 0 else 8) ∧ n' = n - 1 - 1 ∧ l' = jl (A1 (cn e 3)) (A1 (cn (m e) 1)) l1 ∧ A' = rmv (min (e / 4) (m e / 4)) (rmv (max (e / 4) (m e / 4)) (jn (A1 (cn e 3)) (A1 (cn (m e) 1)) A1))
def ov (m : Nat → Nat) (x : Nat) : Prop := x % 2 = 1 ∧ m x % 2 = 1
def tri (n : Nat) (m : Nat → Nat) (a : Int32) (e f g : Nat) : Prop := e < 4 * n ∧ a = nI e ∧ f = cn (m e) 3 ∧ g = cn (m f) 3 ∧ cn (m g) 3 = e ∧ e / 4 ≠ f / 4 ∧ f / 4 ≠ g / 4 ∧ g / 4 ≠ e / 4 ∧ (ov m e ∨ ov m f ∨ ov m g)
def sld1 (A0 B : Nat → Nat) (x o : Nat) : Nat → Nat := u1 (u1 (u1 (u1 B x (A0 (cn o 2))) (cn x 2) (A0 x)) o (A0 (cn x 2))) (cn o 2) (A0 x)
def mvS (n l : Nat) (A m : Nat → Nat) (a : Int32) (f n' l' : Nat) (A' : Nat → Nat) : Prop := ((¬ ∃ x y z, tri n m a x y z) ∧ f = 5) ∨ ∃ x y z, tri n m a x y z ∧ f = 0 ∧ n' = n ∧ l' = l ∧ A' = sld1 A (sld1 A (sld1 A A x (m x)) y (m y)) z (m z)
theorem xor1 {a b : Nat} (ha : a < 2 ^ 31) (hb : b < 2 ^ 31) : (nI a ^^^ nI b) &&& 1 = nI 0 ↔ a % 2 = b % 2 := by
  have e : (nI a ^^^ nI b) &&& 1 = nI ((a ^^^ b) % 2) := by
    have := pk_and (nI a ^^^ nI b) (m := 1) 1 (by decide)
    rw [this, Int32.toBitVec_xor, BitVec.toNat_xor, pk_tn (by omega), pk_tn (by omega)]
  have h2 : (a ^^^ b) % 2 < 2 := Nat.mod_lt _ (by decide)
  rw [e, nI_eq (by omega) (by omega)]
  have q := Nat.xor_mod_two_eq_one (a := a) (b := b)
  omega
theorem andb1 {a b : Nat} (ha : a < 2 ^ 31) (hb : b < 2 ^ 31) : (nI a &&& nI b) &&& 1 = nI 1 ↔ a % 2 = 1 ∧ b % 2 = 1 := by
  have e : (nI a &&& nI b) &&& 1 = nI ((a &&& b) % 2) := by
    have := pk_and (nI a &&& nI b) (m := 1) 1 (by decide)
    rw [this, Int32.toBitVec_and, BitVec.toNat_and, pk_tn (by omega), pk_tn (by omega)]
  have h2 : (a &&& b) % 2 < 2 := Nat.mod_lt _ (by decide)
  rw [e, nI_eq (by omega) (by omega)]
  exact Nat.and_mod_two_eq_one
theorem sh2' {e : Nat} (h : e < 2 ^ 31) : nI e >>> ((2 : Int32) &&& 31) = nI (e / 4) := by
  have : ((2 : Int32) &&& 31) = nI 2 := by decide
  rw [this]
  exact shr2 h
theorem maxV {a b : Nat} (ha : a < 2 ^ 31) (hb : b < 2 ^ 31) (g : AH) : J9_max_7cf53_V (nI a) (nI b) g = nI (max a b) := by
  unfold J9_max_7cf53_V
  by_cases q : a < b
  · rw [if_pos (nI_lt q hb), show max a b = b by omega]
  · rw [if_neg (nI_nlt (by omega) ha), show max a b = a by omega]
theorem minV {a b : Nat} (ha : a < 2 ^ 31) (hb : b < 2 ^ 31) (g : AH) : J9_min_7cf53_V (nI a) (nI b) g = nI (min a b) := by
  unfold J9_min_7cf53_V
  by_cases q : b < a
  · rw [if_pos (nI_lt q ha), show min a b = b by omega]
  · rw [if_neg (nI_nlt (by omega) hb), show min a b = a by omega]
section CMOVE
variable {h : AH} {d bc bs b lb n l : Nat} {A m : Nat → Nat} {Q : Option Value → AH → Prop}
theorem hasE (hn : ah_f h lb 10 = nI n) (h40 : n ≤ 40) (a : Int32) : X4_hasEnd_V lb a h = nI 0 ↔ ¬ ix a (4 * n) := by
  unfold X4_hasEnd_V
  rw [hn, il_4, pk_mul]
  exact ask_ix (by omega)
theorem hasEC (L : lk h lb) (a : Int32) : X4_hasEnd_C lb a h := ⟨fun _ => trivial, fun _ => ⟨lk_o L, trivial⟩⟩
theorem nxV (L : lk h lb) (hm : ∀ e, e < 4 * n → ah_i h (lb + 1) e = nI (m e)) (h40 : n ≤ 40) (hl : ∀ e, e < 4 * n → m e < 4 * n) {e : Nat} (he : e < 4 * n) : X4_nextInRegion_V lb (nI e) h = nI (cn (m e) 3) := by
  unfold X4_nextInRegion_V
  have := hl e he
  rw [lk_r0 L, Option.getD_some, nI_clamp (by omega), hm e he]
  exact corner_nI (k := 3) (by omega) (by omega)
theorem nxC (L : lk h lb) (h40 : n ≤ 40) {e : Nat} (he : e < 4 * n) : X4_nextInRegion_C lb (nI e) h := ⟨lk_o L, lb + 1, lk_r0 L, by rw [lk_s0 L, ix_nI (by omega)]; omega, trivial⟩
theorem kinkC (X : DC h b lb n l A m) (a : Int32) : X5_isKink_C lb a h := by
  obtain ⟨P, L, sep, D, hn, hm, h40, h9, R⟩ := X
  refine ⟨lk_o L, hasEC L a, fun _ => trivial, fun z => ⟨lb + 1, lk_r0 L, ?_, trivial⟩⟩
  have z' : ¬ ¬ ix a (4 * n) := fun w => z ((hasE hn h40 a).mpr w)
  rw [lk_s0 L]
  obtain ⟨e, he, q⟩ := ix_of (Classical.not_not.mp z') (by omega)
  rw [q, ix_nI (by omega)]
  omega
theorem kinkV (X : DC h b lb n l A m) (a : Int32) : X5_isKink_V lb a h = nI 0 ↔ ¬ ∃ e, e < 4 * n ∧ a = nI e ∧ m e = cn e 1 := by
  obtain ⟨P, L, sep, D, hn, hm, h40, h9, R⟩ := X
  unfold X5_isKink_V
  by_cases q : ix a (4 * n)
  · obtain ⟨e, he, rfl⟩ := ix_of q (by omega)
    have hml := R.lt he
    have c1 : X11_corner_V (nI e) 1 h = nI (cn e 1) := corner_nI (k := 1) (by omega) (by omega)
    have hc := cn_lt 1 he
    rw [if_neg (show ¬ X4_hasEnd_V lb (nI e) h = 0 from fun z => (hasE hn h40 _).mp z q), lk_r0 L, Option.getD_some, nI_clamp (by omega), hm e he, c1]
    by_cases w : m e = cn e 1
    · rw [if_pos (by rw [w])]
      exact ⟨fun z => absurd z (by decide), fun z => absurd ⟨e, he, rfl, w⟩ z⟩
    · rw [if_neg (fun z => w ((nI_eq (by omega) (by omega)).mp z))]
      refine ⟨fun _ => ?_, fun _ => rfl⟩
      rintro ⟨e', he', ee, w'⟩
      rw [nI_eq (by omega) (by omega)] at ee
      subst ee
      exact w w'
  · rw [if_pos (show X4_hasEnd_V lb a h = 0 from (hasE hn h40 a).mpr q)]
    refine ⟨fun _ => ?_, fun _ => rfl⟩
    rintro ⟨e, he, rfl, -⟩
    exact q ((ix_nI (by omega)).mpr he)
theorem loopsV (P : pt h b) {l' : Nat} (hl : ah_f h b 3 = nI l') (hb : l' < 100) : X5_loopsAnswer_V b h = ans (if l' ≤ 9 then 0 else 8) := by
  unfold X5_loopsAnswer_V ans
  rw [hl]
  by_cases q : l' ≤ 9
  · rw [if_pos q, if_pos (show nI l' ≤ 9 from nI_le (a := l') (b := 9) q (by decide)), if_pos rfl]
    rfl
  · rw [if_neg q, if_neg (show ¬ nI l' ≤ 9 from nI_ge (b := l') (a := 9) (by omega) (by omega)), if_neg (by decide)]
    rfl
theorem c_untwist {a : Int32} {f n' l' : Nat} {A' : Nat → Nat} (X : DC h b lb n l A m) (M : mvU n l A m a f n' l' A') (k : ∀ h', fr [b, b + 1, b + 2] h h' → (f = 0 → cD h' b n' l' A') → Q (some (.int (ans f))) h') : ex_S yX5_untwist mX5_untwist (d + 3) [.ref b, .ref lb, .int a] h bc bs Q := by
  have kv := kinkV X a
  have kc := kinkC X a
  obtain ⟨P, L, sep, D, hn, hm, h40, h9, R⟩ := X
  have D0 := D
  obtain ⟨d0, d1, d2, d3⟩ := D
  refine X5_untwist_e (X5_untwist_0 ⟨kc, ?_⟩)
  rcases M with ⟨no, rfl⟩ | ⟨e, he, rfl, me, ef, e1, e2, e3⟩
  · exact ⟨fun z => absurd (kv.mpr no) z, fun _ => k h (fr_refl _ h) (fun z => absurd z (by decide))⟩
  · refine ⟨fun _ => ⟨pt_o P, b + 2, pt_r1 P, ?_⟩, fun z => absurd ⟨e, he, rfl, me⟩ (kv.mp z)⟩
    have c2 : X11_corner_V (nI e) 2 h = nI (cn e 2) := corner_nI (k := 2) (by omega) (by omega)
    have c3 : X11_corner_V (nI e) 3 h = nI (cn e 3) := corner_nI (k := 3) (by omega) (by omega)
    have b2 := cn_lt 2 he
    have b3 := cn_lt 3 he
    have hA := fun e he => R.A100 (e := e) he
    have q2 := hA _ b2
    have q3 := hA _ b3
    have sh := sh2' (e := e) (by omega)
    have jb := jl_le (A (cn e 2)) (A (cn e 3)) l
    rw [c2, c3, nI_clamp (by omega), nI_clamp (by omega), d3 _ b2, d3 _ b3, pt_s1 P, pt_s1 P, ix_nI (by omega), ix_nI (by omega), sh]
    refine ⟨by omega, by omega, c_fuseD P D0 h40 hA q2 q3 (fun h7 F7 D7 => ⟨rfl, pt_o (pt_fr P F7), ?_⟩)⟩
    refine c_removeD (pt_fr P F7) D7 h40 (by omega) (fun h8 F8 D8 => ⟨rfl, ⟨pt_o (pt_fr (pt_fr P F7) F8), trivial⟩, ?_⟩)
    have fin := k h8 (fr_trans F7 F8) (fun _ => by rw [e1, e2, e3]; exact D8)
    rw [loopsV (pt_fr (pt_fr P F7) F8) D8.2.1 (by omega), ← e2, ← ef]
    exact fin
theorem lensC (X : DC h b lb n l A m) (a : Int32) : X5_isLens_C lb a h := by
  obtain ⟨P, L, sep, D, hn, hm, h40, h9, R⟩ := X
  refine ⟨lk_o L, hasEC L a, fun z => ?_, fun _ => trivial⟩
  have z' : ¬ ¬ ix a (4 * n) := fun w => z ((hasE hn h40 a).mpr w)
  obtain ⟨e, he, rfl⟩ := ix_of (Classical.not_not.mp z') (by omega)
  have hl := fun e he => R.lt (e := e) he
  refine ⟨lb + 1, lk_r0 L, by rw [lk_s0 L, ix_nI (by omega)]; omega, nxC L h40 he, ?_, trivial⟩
  rw [nxV L hm h40 hl he]
  exact nxC L h40 (cn_lt 3 (hl e he))
theorem lensV (X : DC h b lb n l A m) (a : Int32) : X5_isLens_V lb a h = nI 0 ↔ ¬ ∃ e, e < 4 * n ∧ a = nI e ∧ lens m e := by
  obtain ⟨P, L, sep, D, hn, hm, h40, h9, R⟩ := X
  unfold X5_isLens_V lens
  by_cases q : ix a (4 * n)
  · obtain ⟨e, he, rfl⟩ := ix_of q (by omega)
    have hl := fun e he => R.lt (e := e) he
    have hml := hl e he
    have hc := cn_lt 3 hml
    have hc2 := cn_lt 3 (hl _ hc)
    have hd := cn_div (m e) 3
    have hex : (∃ e', e' < 4 * n ∧ nI e = nI e' ∧ cn (m (cn (m e') 3)) 3 = e' ∧ m e' / 4 ≠ e' / 4 ∧ e' % 2 = m e' % 2) ↔ cn (m (cn (m e) 3)) 3 = e ∧ m e / 4 ≠ e / 4 ∧ e % 2 = m e % 2 := by
      constructor
      · rintro ⟨e', he', ee, w'⟩
        rw [nI_eq (by omega) (by omega)] at ee
        subst ee
        exact w'
      · exact fun w => ⟨e, he, rfl, w⟩
    rw [if_neg (show ¬ X4_hasEnd_V lb (nI e) h = 0 from fun z => (hasE hn h40 _).mp z q), nxV L hm h40 hl he, nxV L hm h40 hl hc, sh2' (by omega), sh2' (by omega), lk_r0 L, Option.getD_some, nI_clamp (by omega), hm e he, hex]
    have x1 : (nI e ^^^ nI (m e)) &&& 1 = 0 ↔ e % 2 = m e % 2 := xor1 (a := e) (b := m e) (by omega) (by omega)
    by_cases w1 : cn (m (cn (m e) 3)) 3 = e
    · rw [if_pos (by rw [w1])]
      by_cases w2 : m e / 4 = e / 4
      · rw [if_pos (by rw [hd, w2])]
        exact ⟨fun _ z => z.2.1 w2, fun _ => rfl⟩
      · rw [if_neg (fun z => w2 (by rw [nI_eq (by omega) (by omega), hd] at z; exact z))]
        by_cases w3 : e % 2 = m e % 2
        · rw [if_pos (x1.mpr w3)]
          exact ⟨fun z => absurd z (by decide), fun z => absurd ⟨w1, w2, w3⟩ z⟩
        · rw [if_neg (fun z => w3 (x1.mp z))]
          exact ⟨fun _ z => w3 z.2.2, fun _ => rfl⟩
    · rw [if_neg (fun z => w1 ((nI_eq (by omega) (by omega)).mp z))]
      exact ⟨fun _ z => w1 z.1, fun _ => rfl⟩
  · rw [if_pos (show X4_hasEnd_V lb a h = 0 from (hasE hn h40 a).mpr q)]
    refine ⟨fun _ => ?_, fun _ => rfl⟩
    rintro ⟨e, he, rfl, -⟩
    exact q ((ix_nI (by omega)).mpr he)
theorem c_unpoke {a : Int32} {f n' l' : Nat} {A' : Nat → Nat} (X : DC h b lb n l A m) (M : mvP n l A m a f n' l' A') (k : ∀ h', fr [b, b + 1, b + 2] h h' → (f = 0 → cD h' b n' l' A') → Q (some (.int (ans f))) h') : ex_S yX5_unpoke mX5_unpoke (d + 3) [.ref b, .ref lb, .int a] h bc bs Q := by
  have kv := lensV X a
  have kc := lensC X a
  obtain ⟨P, L, sep, D, hn, hm, h40, h9, R⟩ := X
  have D0 := D
  obtain ⟨d0, d1, d2, d3⟩ := D
  refine X5_unpoke_e (X5_unpoke_0 ⟨kc, ?_⟩)
  rcases M with ⟨no, rfl⟩ | ⟨e, he, rfl, le, A1, l1, eA, el, ef, e1, e2, e3⟩
  · exact ⟨fun z => absurd (kv.mpr no) z, fun _ => k h (fr_refl _ h) (fun z => absurd z (by decide))⟩
  · refine ⟨fun _ => ⟨lk_o L, lb + 1, lk_r0 L, ?_⟩, fun z => absurd ⟨e, he, rfl, le⟩ (kv.mp z)⟩
    have hml := R.lt he
    have hA := fun e he => R.A100 (e := e) he
    have c2 : ∀ g : AH, X11_corner_V (nI e) 2 g = nI (cn e 2) := fun g => corner_nI (k := 2) (by omega) (by omega)
    have c3 : ∀ g : AH, X11_corner_V (nI e) 3 g = nI (cn e 3) := fun g => corner_nI (k := 3) (by omega) (by omega)
    have o2 : ∀ g : AH, X11_corner_V (nI (m e)) 2 g = nI (cn (m e) 2) := fun g => corner_nI (k := 2) (by omega) (by omega)
    have o1 : ∀ g : AH, X11_corner_V (nI (m e)) 1 g = nI (cn (m e) 1) := fun g => corner_nI (k := 1) (by omega) (by omega)
    have b2 := cn_lt 2 he
    have b3 := cn_lt 3 he
    have p2 := cn_lt 2 hml
    have p1 := cn_lt 1 hml
    have sh := sh2' (e := e) (by omega)
    have sh' := sh2' (e := m e) (by omega)
    have jb := jl_le (A (cn e 2)) (A (cn (m e) 2)) l
    have jb2 := jl_le (A1 (cn e 3)) (A1 (cn (m e) 1)) l1
    rw [lk_s0 L, ix_nI (by omega), nI_clamp (by omega), hm e he]
    refine ⟨by omega, fun x6 ex6 => ?_⟩
    subst ex6
    refine ⟨pt_o P, b + 2, pt_r1 P, ?_⟩
    rw [c2, o2, nI_clamp (by omega), nI_clamp (by omega), d3 _ b2, d3 _ p2, pt_s1 P, pt_s1 P, ix_nI (by omega), ix_nI (by omega), sh, sh']
    refine ⟨by omega, by omega, c_fuseD P D0 h40 hA (hA _ b2) (hA _ p2) (fun h7 F7 D7 => ⟨rfl, pt_o (pt_fr P F7), b + 2, pt_r1 (pt_fr P F7), ?_⟩)⟩
    rw [← eA, ← el] at D7
    have hA1 : ∀ e, e < 4 * n → A1 e < 100 := by rw [eA]; exact jn_lt hA (hA _ b2)
    rw [c3, o1, nI_clamp (by omega), nI_clamp (by omega), D7.2.2.2 _ b3, D7.2.2.2 _ p1, pt_s1 (pt_fr P F7), pt_s1 (pt_fr P F7), ix_nI (by omega), ix_nI (by omega)]
    refine ⟨by omega, by omega, c_fuseD (pt_fr P F7) D7 h40 hA1 (hA1 _ b3) (hA1 _ p1) (fun h8 F8 D8 => ⟨rfl, pt_o (pt_fr (pt_fr P F7) F8), ?_⟩)⟩
    rw [maxV (by omega) (by omega)]
    have P8 := pt_fr (pt_fr P F7) F8
    have hne := le.2.1
    refine c_removeD P8 D8 h40 (by omega) (fun h9 F9 D9 => ⟨rfl, pt_o (pt_fr P8 F9), ?_⟩)
    rw [minV (by omega) (by omega)]
    refine c_removeD (pt_fr P8 F9) D9 (by omega) (by omega) (fun h10 F10 D10 => ⟨rfl, ⟨pt_o (pt_fr (pt_fr P8 F9) F10), trivial⟩, ?_⟩)
    have fin := k h10 (fr_trans (fr_trans F7 F8) (fr_trans F9 F10)) (fun _ => by rw [e1, e2, e3]; exact D10)
    rw [loopsV (pt_fr (pt_fr P8 F9) F10) D10.2.1 (by omega), ← e2, ← ef]
    exact fin
theorem overV (L : lk h lb) (hm : ∀ e, e < 4 * n → ah_i h (lb + 1) e = nI (m e)) (h40 : n ≤ 40) (hl : ∀ e, e < 4 * n → m e < 4 * n) {e : Nat} (he : e < 4 * n) : X5_isOver_V lb (nI e) h = nI 0 ↔ ¬ ov m e := by
  have hml := hl e he
  unfold X5_isOver_V ov
  rw [lk_r0 L, Option.getD_some, nI_clamp (by omega), hm e he]
  have x1 : (nI e &&& nI (m e)) &&& 1 = 1 ↔ e % 2 = 1 ∧ m e % 2 = 1 := andb1 (a := e) (b := m e) (by omega) (by omega)
  by_cases w : e % 2 = 1 ∧ m e % 2 = 1
  · rw [if_pos (x1.mpr w)]
    exact ⟨fun z => absurd z (by decide), fun z => absurd w z⟩
  · rw [if_neg (fun z => w (x1.mp z))]
    exact ⟨fun _ => w, fun _ => rfl⟩
theorem overC (L : lk h lb) (h40 : n ≤ 40) {e : Nat} (he : e < 4 * n) : X5_isOver_C lb (nI e) h := ⟨lk_o L, lb + 1, lk_r0 L, by rw [lk_s0 L, ix_nI (by omega)]; omega, trivial⟩
theorem c_isTriangle (L : lk h lb) (hn : ah_f h lb 10 = nI n) (hm : ∀ e, e < 4 * n → ah_i h (lb + 1) e = nI (m e)) (h40 : n ≤ 40) (hl : ∀ e, e < 4 * n → m e < 4 * n) (a : Int32) (k1 : (∃ x y z, tri n m a x y z) → Q (some (.int (nI 1))) h) (k0 : (¬ ∃ x y z, tri n m a x y z) → Q (some (.int (nI 0))) h) : ex_S yX5_isTriangle mX5_isTriangle (d + 2) [.ref lb, .int a] h bc bs Q := by
  refine X5_isTriangle_e (X5_isTriangle_0 ⟨lk_o L, hasEC L a, ?_⟩)
  by_cases q : ix a (4 * n)
  · obtain ⟨e, he, rfl⟩ := ix_of q (by omega)
    have hc := cn_lt 3 (hl e he)
    have hc2 := cn_lt 3 (hl _ hc)
    have hc3 := cn_lt 3 (hl _ hc2)
    have hex : (∃ x y z, tri n m (nI e) x y z) ↔ cn (m (cn (m (cn (m e) 3)) 3)) 3 = e ∧ e / 4 ≠ cn (m e) 3 / 4 ∧ cn (m e) 3 / 4 ≠ cn (m (cn (m e) 3)) 3 / 4 ∧ cn (m (cn (m e) 3)) 3 / 4 ≠ e / 4 ∧ (ov m e ∨ ov m (cn (m e) 3) ∨ ov m (cn (m (cn (m e) 3)) 3)) := by
      constructor
      · rintro ⟨x, y, z, hx, ex, ey, ez, w⟩
        rw [nI_eq (by omega) (by omega)] at ex
        subst ex
        subst ey
        subst ez
        exact w
      · exact fun w => ⟨e, _, _, he, rfl, rfl, rfl, w⟩
    rw [hex] at k1 k0
    have n1 := nxV L hm h40 hl he
    have n2 := nxV L hm h40 hl hc
    have n3 := nxV L hm h40 hl hc2
    have o1 := overV L hm h40 hl he
    have o2 := overV L hm h40 hl hc
    have o3 := overV L hm h40 hl hc2
    have s1 := sh2' (e := e) (by omega)
    have s2 := sh2' (e := cn (m e) 3) (by omega)
    have s3 := sh2' (e := cn (m (cn (m e) 3)) 3) (by omega)
    refine ⟨fun _ => ⟨nxC L h40 he, fun x5 e5 => ?_⟩, fun z => absurd q ((hasE hn h40 _).mp z)⟩
    subst e5
    rw [n1]
    refine ⟨nxC L h40 hc, fun x7 e7 => ?_⟩
    subst e7
    rw [n2]
    refine ⟨nxC L h40 hc2, ?_⟩
    rw [n3, s1, s2, s3]
    simp only [nI_eq (show cn (m (cn (m (cn (m e) 3)) 3)) 3 < 2 ^ 31 by omega) (show e < 2 ^ 31 by omega), nI_eq (show e / 4 < 2 ^ 31 by omega) (show cn (m e) 3 / 4 < 2 ^ 31 by omega), nI_eq (show cn (m e) 3 / 4 < 2 ^ 31 by omega) (show cn (m (cn (m e) 3)) 3 / 4 < 2 ^ 31 by omega), nI_eq (show cn (m (cn (m e) 3)) 3 / 4 < 2 ^ 31 by omega) (show e / 4 < 2 ^ 31 by omega)]
    refine ⟨fun w => k0 (fun z => w z.1), fun w1 => ⟨fun w => k0 (fun z => z.2.1 w), fun w2 => ⟨fun w => k0 (fun z => z.2.2.1 w), fun w3 => ⟨fun w => k0 (fun z => z.2.2.2.1 w), fun w4 => ⟨overC L h40 he, fun w => k1 ⟨w1, w2, w3, w4, Or.inl (Classical.not_not.mp (fun z => w (o1.mpr z)))⟩, fun w5 => ⟨overC L h40 hc, fun w => k1 ⟨w1, w2, w3, w4, Or.inr (Or.inl (Classical.not_not.mp (fun z => w (o2.mpr z))))⟩, fun w6 => ⟨overC L h40 hc2, fun w => k0 (fun z => ?_), fun w => k1 ⟨w1, w2, w3, w4, Or.inr (Or.inr (Classical.not_not.mp (fun z => w (o3.mpr z))))⟩⟩⟩⟩⟩⟩⟩⟩
    rcases z.2.2.2.2 with z | z | z
    · exact o1.mp w5 z
    · exact o2.mp w6 z
    · exact o3.mp w z
  · refine ⟨fun z => absurd ((hasE hn h40 a).mpr q) z, fun _ => k0 ?_⟩
    rintro ⟨x, y, z, hx, ex, -⟩
    exact q (by rw [ex, ix_nI (by omega)]; exact hx)
theorem c_slideArcC (P : pt h b) {x o : Nat} (hx : x < 160) (ho : o < 160) (u v : Int32) : X5_slideArc_C b (nI x) (nI o) u v h := by
  have bx := P.1
  have c2 : ∀ g : AH, X11_corner_V (nI x) 2 g = nI (cn x 2) := fun g => corner_nI (k := 2) (by omega) (by omega)
  have o2 : ∀ g : AH, X11_corner_V (nI o) 2 g = nI (cn o 2) := fun g => corner_nI (k := 2) (by omega) (by omega)
  have h1 : cn x 2 < 160 := cn_lt (n := 40) 2 (by omega)
  have h2 : cn o 2 < 160 := cn_lt (n := 40) 2 (by omega)
  unfold X5_slideArc_C
  simp (disch := omega) only [pt_o P, pt_r0 P, pt_r1 P, pt_s0 P, pt_s1 P, pt_t0 P, pt_t1 P, forall_eq, Option.some.injEq, exists_eq_left', Option.getD_some, n_sf, k_sf, f_sf_s, f_sf_n, r_sf, i_sf, l_sf, q_sf, ld0_sf, st0_sf, ld1_sf, ld2_sf, ld3_sf, ah_o_sf, in__sf, cp__sf, ah_x_sf, ah_ra_sf, n_si, k_si, f_si, r_si, i_si_s, i_si_n, l_si, q_si, ld0_si, st0_si, ld1_si, ld2_si, ld3_si, ah_o_si, in__si, cp__si, ah_x_si, ah_ra_si, n_sl, k_sl, f_sl, r_sl, i_sl, l_sl_s, l_sl_n, q_sl, ld0_sl, st0_sl, ld1_sl, ld2_sl, ld3_sl, ah_o_sl, in__sl, cp__sl, ah_x_sl, ah_ra_sl, n_wi, k_wi, f_wi, r_wi, i_wi_s, i_wi_n, l_wi, q_wi, ld0_wi, st0_wi, ld1_wi, ld2_wi, ld3_wi, ah_o_wi, in__wi, cp__wi, ah_x_wi, ah_ra_wi, n_wl, k_wl, f_wl, r_wl, i_wl, l_wl_s, l_wl_n, q_wl, ld0_wl, st0_wl, ld1_wl, ld2_wl, ld3_wl, ah_o_wl, in__wl, cp__wl, ah_x_wl, ah_ra_wl, n_sr, k_sr, f_sr, r_sr_s, r_sr_n, i_sr, l_sr, q_sr, n_sq, k_sq, f_sq, r_sq, i_sq, l_sq, q_sq_s, q_sq_n, c2, o2, ix_nI]
  refine ⟨trivial, ?_⟩
  simp only [and_true]
  omega
theorem c_slideArcH (P : pt h b) {x o u v y : Nat} {B : Nat → Nat} (h40 : n ≤ 40) (hx : x < 4 * n) (ho : o < 4 * n) (D : cD h b n l B) (hy : B x = y) : fr [b, b + 1, b + 2] h (X5_slideArc_H b (nI x) (nI o) (nI u) (nI v) h) ∧ cD (X5_slideArc_H b (nI x) (nI o) (nI u) (nI v) h) b n l (u1 (u1 (u1 (u1 B x v) (cn x 2) y) o u) (cn o 2) y) := by
  obtain ⟨d0, d1, d2, d3⟩ := D
  have bx := P.1
  have m2 : b + 2 ∈ [b, b + 1, b + 2] := (by simp only [List.mem_cons, List.not_mem_nil, or_false, true_or, or_true, not_true_eq_false] <;> omega)
  have c2 : ∀ g : AH, X11_corner_V (nI x) 2 g = nI (cn x 2) := fun g => corner_nI (k := 2) (by omega) (by omega)
  have o2 : ∀ g : AH, X11_corner_V (nI o) 2 g = nI (cn o 2) := fun g => corner_nI (k := 2) (by omega) (by omega)
  have h1 := cn_lt 2 hx
  have h2 := cn_lt 2 ho
  have key : X5_slideArc_H b (nI x) (nI o) (nI u) (nI v) h = ah_si (ah_si (ah_si (ah_si h (b + 2) x (nI v)) (b + 2) (cn x 2) (nI y)) (b + 2) o (nI u)) (b + 2) (cn o 2) (nI y) := by
    unfold X5_slideArc_H
    have := d3 x hx
    rw [hy] at this
    simp (disch := omega) only [pt_r1 P, forall_eq, Option.some.injEq, exists_eq_left', Option.getD_some, n_sf, k_sf, f_sf_s, f_sf_n, r_sf, i_sf, l_sf, q_sf, ld0_sf, st0_sf, ld1_sf, ld2_sf, ld3_sf, ah_o_sf, in__sf, cp__sf, ah_x_sf, ah_ra_sf, n_si, k_si, f_si, r_si, i_si_s, i_si_n, l_si, q_si, ld0_si, st0_si, ld1_si, ld2_si, ld3_si, ah_o_si, in__si, cp__si, ah_x_si, ah_ra_si, n_sl, k_sl, f_sl, r_sl, i_sl, l_sl_s, l_sl_n, q_sl, ld0_sl, st0_sl, ld1_sl, ld2_sl, ld3_sl, ah_o_sl, in__sl, cp__sl, ah_x_sl, ah_ra_sl, n_wi, k_wi, f_wi, r_wi, i_wi_s, i_wi_n, l_wi, q_wi, ld0_wi, st0_wi, ld1_wi, ld2_wi, ld3_wi, ah_o_wi, in__wi, cp__wi, ah_x_wi, ah_ra_wi, n_wl, k_wl, f_wl, r_wl, i_wl, l_wl_s, l_wl_n, q_wl, ld0_wl, st0_wl, ld1_wl, ld2_wl, ld3_wl, ah_o_wl, in__wl, cp__wl, ah_x_wl, ah_ra_wl, n_sr, k_sr, f_sr, r_sr_s, r_sr_n, i_sr, l_sr, q_sr, n_sq, k_sq, f_sq, r_sq, i_sq, l_sq, q_sq_s, q_sq_n, c2, o2, nI_clamp, this]
  rw [key]
  refine ⟨fr_si (fr_si (fr_si (fr_si (fr_refl _ h) m2) m2) m2) m2, ?_, ?_, ?_, ?_⟩
  · simp (disch := omega) only [n_sf, k_sf, f_sf_s, f_sf_n, r_sf, i_sf, l_sf, q_sf, ld0_sf, st0_sf, ld1_sf, ld2_sf, ld3_sf, ah_o_sf, in__sf, cp__sf, ah_x_sf, ah_ra_sf, n_si, k_si, f_si, r_si, i_si_s, i_si_n, l_si, q_si, ld0_si, st0_si, ld1_si, ld2_si, ld3_si, ah_o_si, in__si, cp__si, ah_x_si, ah_ra_si, n_sl, k_sl, f_sl, r_sl, i_sl, l_sl_s, l_sl_n, q_sl, ld0_sl, st0_sl, ld1_sl, ld2_sl, ld3_sl, ah_o_sl, in__sl, cp__sl, ah_x_sl, ah_ra_sl, n_wi, k_wi, f_wi, r_wi, i_wi_s, i_wi_n, l_wi, q_wi, ld0_wi, st0_wi, ld1_wi, ld2_wi, ld3_wi, ah_o_wi, in__wi, cp__wi, ah_x_wi, ah_ra_wi, n_wl, k_wl, f_wl, r_wl, i_wl, l_wl_s, l_wl_n, q_wl, ld0_wl, st0_wl, ld1_wl, ld2_wl, ld3_wl, ah_o_wl, in__wl, cp__wl, ah_x_wl, ah_ra_wl, n_sr, k_sr, f_sr, r_sr_s, r_sr_n, i_sr, l_sr, q_sr, n_sq, k_sq, f_sq, r_sq, i_sq, l_sq, q_sq_s, q_sq_n]; exact d0
  · simp (disch := omega) only [n_sf, k_sf, f_sf_s, f_sf_n, r_sf, i_sf, l_sf, q_sf, ld0_sf, st0_sf, ld1_sf, ld2_sf, ld3_sf, ah_o_sf, in__sf, cp__sf, ah_x_sf, ah_ra_sf, n_si, k_si, f_si, r_si, i_si_s, i_si_n, l_si, q_si, ld0_si, st0_si, ld1_si, ld2_si, ld3_si, ah_o_si, in__si, cp__si, ah_x_si, ah_ra_si, n_sl, k_sl, f_sl, r_sl, i_sl, l_sl_s, l_sl_n, q_sl, ld0_sl, st0_sl, ld1_sl, ld2_sl, ld3_sl, ah_o_sl, in__sl, cp__sl, ah_x_sl, ah_ra_sl, n_wi, k_wi, f_wi, r_wi, i_wi_s, i_wi_n, l_wi, q_wi, ld0_wi, st0_wi, ld1_wi, ld2_wi, ld3_wi, ah_o_wi, in__wi, cp__wi, ah_x_wi, ah_ra_wi, n_wl, k_wl, f_wl, r_wl, i_wl, l_wl_s, l_wl_n, q_wl, ld0_wl, st0_wl, ld1_wl, ld2_wl, ld3_wl, ah_o_wl, in__wl, cp__wl, ah_x_wl, ah_ra_wl, n_sr, k_sr, f_sr, r_sr_s, r_sr_n, i_sr, l_sr, q_sr, n_sq, k_sq, f_sq, r_sq, i_sq, l_sq, q_sq_s, q_sq_n]; exact d1
  · simp (disch := omega) only [n_sf, k_sf, f_sf_s, f_sf_n, r_sf, i_sf, l_sf, q_sf, ld0_sf, st0_sf, ld1_sf, ld2_sf, ld3_sf, ah_o_sf, in__sf, cp__sf, ah_x_sf, ah_ra_sf, n_si, k_si, f_si, r_si, i_si_s, i_si_n, l_si, q_si, ld0_si, st0_si, ld1_si, ld2_si, ld3_si, ah_o_si, in__si, cp__si, ah_x_si, ah_ra_si, n_sl, k_sl, f_sl, r_sl, i_sl, l_sl_s, l_sl_n, q_sl, ld0_sl, st0_sl, ld1_sl, ld2_sl, ld3_sl, ah_o_sl, in__sl, cp__sl, ah_x_sl, ah_ra_sl, n_wi, k_wi, f_wi, r_wi, i_wi_s, i_wi_n, l_wi, q_wi, ld0_wi, st0_wi, ld1_wi, ld2_wi, ld3_wi, ah_o_wi, in__wi, cp__wi, ah_x_wi, ah_ra_wi, n_wl, k_wl, f_wl, r_wl, i_wl, l_wl_s, l_wl_n, q_wl, ld0_wl, st0_wl, ld1_wl, ld2_wl, ld3_wl, ah_o_wl, in__wl, cp__wl, ah_x_wl, ah_ra_wl, n_sr, k_sr, f_sr, r_sr_s, r_sr_n, i_sr, l_sr, q_sr, n_sq, k_sq, f_sq, r_sq, i_sq, l_sq, q_sq_s, q_sq_n]; exact d2
  · intro e he
    simp (disch := omega) only [n_sf, k_sf, f_sf_s, f_sf_n, r_sf, i_sf, l_sf, q_sf, ld0_sf, st0_sf, ld1_sf, ld2_sf, ld3_sf, ah_o_sf, in__sf, cp__sf, ah_x_sf, ah_ra_sf, n_si, k_si, f_si, r_si, i_si_s, i_si_n, l_si, q_si, ld0_si, st0_si, ld1_si, ld2_si, ld3_si, ah_o_si, in__si, cp__si, ah_x_si, ah_ra_si, n_sl, k_sl, f_sl, r_sl, i_sl, l_sl_s, l_sl_n, q_sl, ld0_sl, st0_sl, ld1_sl, ld2_sl, ld3_sl, ah_o_sl, in__sl, cp__sl, ah_x_sl, ah_ra_sl, n_wi, k_wi, f_wi, r_wi, i_wi_s, i_wi_n, l_wi, q_wi, ld0_wi, st0_wi, ld1_wi, ld2_wi, ld3_wi, ah_o_wi, in__wi, cp__wi, ah_x_wi, ah_ra_wi, n_wl, k_wl, f_wl, r_wl, i_wl, l_wl_s, l_wl_n, q_wl, ld0_wl, st0_wl, ld1_wl, ld2_wl, ld3_wl, ah_o_wl, in__wl, cp__wl, ah_x_wl, ah_ra_wl, n_sr, k_sr, f_sr, r_sr_s, r_sr_n, i_sr, l_sr, q_sr, n_sq, k_sq, f_sq, r_sq, i_sq, l_sq, q_sq_s, q_sq_n]
    unfold u1
    split
    · rfl
    · split
      · rfl
      · split
        · rfl
        · split
          · rfl
          · exact d3 e he
theorem sld_at {A0 B : Nat → Nat} {x o e : Nat} (h1 : e / 4 ≠ x / 4) (h2 : e / 4 ≠ o / 4 ∨ (e + o) % 2 = 1) : sld1 A0 B x o e = B e := by
  unfold sld1
  have c1 := cn_div x 2
  have c2 := cn_div o 2
  have c3 := cn_mod o 2
  have q1 : e ≠ x := fun w => h1 (by rw [w])
  have q2 : e ≠ cn x 2 := fun w => h1 (by rw [w, c1])
  have q3 : e ≠ o := fun w => by subst w; omega
  have q4 : e ≠ cn o 2 := fun w => by omega
  rw [u1_n _ _ q4, u1_n _ _ q3, u1_n _ _ q2, u1_n _ _ q1]
theorem c_slide {a : Int32} {f n' l' : Nat} {A' : Nat → Nat} (X : DC h b lb n l A m) (M : mvS n l A m a f n' l' A') (k : ∀ h', fr [b, b + 1, b + 2] h h' → (f = 0 → cD h' b n' l' A') → Q (some (.int (ans f))) h') : ex_S yX5_slide mX5_slide (d + 3) [.ref b, .ref lb, .int a] h bc bs Q := by
  obtain ⟨P, L, sep, D, hn, hm, h40, h9, R⟩ := X
  have hl := fun e he => R.lt (e := e) he
  refine X5_slide_e (X5_slide_0 (c_isTriangle L hn hm h40 hl a (fun T => ⟨_, rfl, fun _ => ?_, fun z => absurd z (by decide)⟩) (fun T => ⟨_, rfl, fun z => absurd rfl z, fun _ => ?_⟩)))
  · rcases M with ⟨no, -⟩ | ⟨e, y, z, ⟨he, rfl, ey, ez, t1, t2, t3, t4, t5⟩, ef, e1, e2, e3⟩
    · exact absurd T no
    · have hml := hl e he
      have hy : y < 4 * n := by rw [ey]; exact cn_lt 3 hml
      have hmy := hl y hy
      have hz : z < 4 * n := by rw [ez]; exact cn_lt 3 hmy
      have hmz := hl z hz
      have n1 : X4_nextInRegion_V lb (nI e) h = nI y := by rw [nxV L hm h40 hl he, ← ey]
      have n2 : X4_nextInRegion_V lb (nI y) h = nI z := by rw [nxV L hm h40 hl hy, ← ez]
      have cr : ∀ (x : Nat) (g : AH), x < 4 * n → X11_corner_V (nI x) 2 g = nI (cn x 2) := fun x g hx => corner_nI (k := 2) (by omega) (by omega)
      have b1 := cn_lt 2 he
      have b2 := cn_lt 2 hy
      have b3 := cn_lt 2 hz
      have p1 := cn_lt 2 hml
      have p2 := cn_lt 2 hmy
      have p3 := cn_lt 2 hmz
      have dy := cn_div (m e) 3
      have my := cn_mod (m e) 3
      have dz := cn_div (m y) 3
      have mz := cn_mod (m y) 3
      rw [← ey] at dy my
      rw [← ez] at dz mz
      have cl_ : ∀ x : Nat, x < 4 * n → (nI x).toNatClampNeg = x := fun x hx => nI_clamp (by omega)
      have ixx : ∀ x : Nat, x < 4 * n → ld0 h (b + 2) (nI x) := fun x hx => (pt_s1 P _).mpr ((ix_nI (by omega)).mpr (by omega))
      have ixm : ∀ (g : AH) (x : Nat), lk g lb → x < 4 * n → ld0 g (lb + 1) (nI x) := fun g x Lg hx => (lk_s0 Lg _).mpr ((ix_nI (by omega)).mpr (by omega))
      refine ⟨lk_o L, nxC L h40 he, fun x6 e6 => ?_⟩
      rw [n1] at e6
      subst e6
      refine ⟨nxC L h40 hy, fun x8 e8 => ?_⟩
      rw [n2] at e8
      subst e8
      refine ⟨pt_o P, b + 2, pt_r1 P, ?_⟩
      rw [cr _ _ he, cr _ _ hy, cr _ _ hz, cl_ _ b1, cl_ _ b2, cl_ _ b3, D.2.2.2 _ b1, D.2.2.2 _ b2, D.2.2.2 _ b3]
      refine ⟨ixx _ b1, fun x12 e12 => ⟨ixx _ b2, fun x14 e14 => ⟨ixx _ b3, fun x16 e16 => ⟨lb + 1, lk_r0 L, ixm h e L he, ?_⟩⟩⟩⟩
      subst e12
      subst e14
      subst e16
      rw [cl_ _ he, cl_ _ hy, cl_ _ hz, hm _ he, hm _ hy, hm _ hz, cr _ _ hml, cr _ _ hmy, cr _ _ hmz, cl_ _ p1, cl_ _ p2, cl_ _ p3, D.2.2.2 _ p1, D.2.2.2 _ p2, D.2.2.2 _ p3]
      refine ⟨ixx _ p1, fun x20 e20 => ⟨ixm h y L hy, ixx _ p2, fun x23 e23 => ⟨ixm h z L hz, ixx _ p3, fun x26 e26 => ?_⟩⟩⟩
      subst e20
      subst e23
      subst e26
      refine ⟨c_slideArcC P (by omega) (by omega) _ _, fun h1 eh1 => ?_⟩
      obtain ⟨F1, D1⟩ := c_slideArcH (u := A (cn e 2)) (v := A (cn (m e) 2)) P h40 he hml D rfl
      rw [← eh1] at F1 D1
      have P1 := pt_fr P F1
      have L1 := lk_fr L F1
      have hm1 : ∀ e, e < 4 * n → ah_i h1 (lb + 1) e = nI (m e) := fun e he => by rw [fr_i F1 (lb + 1) (by simp only [List.mem_cons, List.not_mem_nil, or_false, true_or, or_true, not_true_eq_false] <;> omega)]; exact hm e he
      have D1' : cD h1 b n l (sld1 A A e (m e)) := D1
      refine ⟨lk_o L1, lb + 1, lk_r0 L1, ixm h1 y L1 hy, ?_⟩
      rw [hm1 _ hy]
      refine ⟨c_slideArcC P1 (by omega) (by omega) _ _, fun h2 eh2 => ?_⟩
      obtain ⟨F2, D2⟩ := c_slideArcH (u := A (cn y 2)) (v := A (cn (m y) 2)) (y := A y) P1 h40 hy hmy D1' (sld_at (by omega) (by omega))
      rw [← eh2] at F2 D2
      have P2 := pt_fr P1 F2
      have L2 := lk_fr L1 F2
      have hm2 : ∀ e, e < 4 * n → ah_i h2 (lb + 1) e = nI (m e) := fun e he => by rw [fr_i F2 (lb + 1) (by simp only [List.mem_cons, List.not_mem_nil, or_false, true_or, or_true, not_true_eq_false] <;> omega)]; exact hm1 e he
      have D2' : cD h2 b n l (sld1 A (sld1 A A e (m e)) y (m y)) := D2
      refine ⟨lk_o L2, lb + 1, lk_r0 L2, ixm h2 z L2 hz, ?_⟩
      rw [hm2 _ hz]
      refine ⟨c_slideArcC P2 (by omega) (by omega) _ _, fun h3 eh3 => ?_⟩
      obtain ⟨F3, D3⟩ := c_slideArcH (u := A (cn z 2)) (v := A (cn (m z) 2)) (y := A z) P2 h40 hz hmz D2' (by rw [sld_at (by omega) (by omega), sld_at (by omega) (by omega)])
      rw [← eh3] at F3 D3
      have fin := k h3 (fr_trans (fr_trans F1 F2) F3) (fun _ => by rw [e1, e2, e3]; exact D3)
      rw [ef] at fin
      exact fin
  · rcases M with ⟨-, rfl⟩ | ⟨e, y, z, t, -⟩
    · exact k h (fr_refl _ h) (fun z => absurd z (by decide))
    · exact absurd ⟨e, y, z, t⟩ T
end CMOVE
