/-! Strands: the class. -/
/-- e and f are ends of one strand -/
def sg (n : Nat) (m : Nat → Nat) (e f : Nat) : Prop := ∀ S : Nat → Prop, S e → (∀ x, x < 4 * n → S x → S (m x)) → (∀ x, x < 4 * n → x % 2 = 1 → S x → S (cn x 2)) → S f
section SG
variable {n : Nat} {A m : Nat → Nat}
theorem sg_refl (e : Nat) : sg n m e e := fun _ h _ _ => h
theorem sg_trans {a b c : Nat} (x : sg n m a b) (y : sg n m b c) : sg n m a c := fun S h s t => y S (x S h s t) s t
theorem sg_m {e : Nat} (he : e < 4 * n) : sg n m e (m e) := fun _ h s _ => s e he h
theorem sg_2 {e : Nat} (he : e < 4 * n) (ho : e % 2 = 1) : sg n m e (cn e 2) := fun _ h _ t => t e he ho h
theorem cn2_odd (e : Nat) : cn e 2 % 2 = e % 2 := by
  have := cn_mod e 2
  omega
theorem sg_EQ (P : Pr n A m) : EQ (sg n m) (4 * n) := ⟨fun a => sg_refl a, fun a b ha x => by
  refine (x (fun z => z < 4 * n ∧ sg n m z a) ⟨ha, sg_refl a⟩ (fun e he h => ⟨P.lt he, ?_⟩) (fun e he ho h => ⟨cn_lt 2 he, ?_⟩)).2
  · have := sg_m (n := n) (m := m) (P.lt he)
    rw [P.mm he] at this
    exact sg_trans this h.2
  · have := sg_2 (n := n) (m := m) (cn_lt 2 he) (by rw [cn2_odd]; exact ho)
    rw [cn_22] at this
    exact sg_trans this h.2, fun _ _ _ x y => sg_trans x y, fun a b ha x => (x (fun z => z < 4 * n) ha (fun e he _ => P.lt he) (fun e he _ _ => cn_lt 2 he))⟩
end SG
/-- what a walk along a strand has marked; ex: an end whose other side is still to be walked -/
def WK (n : Nat) (m : Nat → Nat) (F0 F : Nat → Int32) (q e out : Nat) (ex : Nat → Prop) : Prop := (∀ x, x < 4 * n → F x = F0 x ∨ (F x = nI q ∧ sg n m e x)) ∧ (∀ x, x < 4 * n → F x = nI q → F (m x) = nI q ∧ (x % 2 = 1 → F (cn x 2) = nI q ∨ ex x ∨ cn x 2 = out)) ∧ (ex out ∨ F (cn out 2) = nI q ∨ out % 2 = 0)
section WALK
variable {h : AH} {d bc bs n : Nat} {A m : Nat → Nat} {Q : Option Value → AH → Prop}
theorem c_walkStrand {lb q e o : Nat} {F0 : Nat → Int32} {ex : Nat → Prop} (K : sp h) (L : lk h lb) (hlb : lb + 11 ≤ 82) (P : Pr n A m) (h40 : n ≤ 40) (hm : ∀ x, x < 4 * n → ah_i h (lb + 1) x = nI (m x)) (hq : ah_f h 82 2 = nI q) (hq2 : q < 1000) (ho : o < 4 * n) (oe : sg n m e o)
    (h0 : ∀ x, x < 4 * n → sg n m e x → ah_i h 83 x = m1 ∨ ah_i h 83 x = nI q) (W0 : WK n m F0 (ah_i h 83) q e o ex)
    (k : ∀ h', fr [83] h h' → (∀ x, x < 4 * n → ah_i h' 83 x = F0 x ∨ (ah_i h' 83 x = nI q ∧ sg n m e x)) → (∀ x, x < 4 * n → ah_i h' 83 x = nI q → ah_i h' 83 (m x) = nI q ∧ (x % 2 = 1 → ah_i h' 83 (cn x 2) = nI q ∨ ex x)) → ah_i h' 83 o = nI q → (∀ x, x < 4 * n → ah_i h 83 x = nI q → ah_i h' 83 x = nI q) → Q none h') : ex_S yX1_walkStrand mX1_walkStrand (d + 1) [.ref 82, .ref lb, .int (nI o)] h bc bs Q := by
  obtain ⟨p, hp, hpl⟩ := isP_ex (tuP P) ho
  refine X1_walkStrand_e (X1_walkStrand_0 ?_)
  refine lp p (fun i h' => fr [83] h h' ∧ WK n m F0 (ah_i h' 83) q e (it (tu m) i o) ex ∧ sg n m e (it (tu m) i o) ∧ (0 < i → ah_i h' 83 o = nI q) ∧ (∀ x, x < 4 * n → sg n m e x → ah_i h' 83 x = m1 ∨ ah_i h' 83 x = nI q) ∧ ∀ x, x < 4 * n → ah_i h 83 x = nI q → ah_i h' 83 x = nI q) (fun i h' => ex_G mX1_walkStrand (d + 1) 5 [.ref 82, .ref lb, .retAddr 0, .int (nI (it (tu m) i o)), .int (nI i), .retAddr 0] [] h' bc bs Q) ⟨fr_refl _ h, W0, oe, fun z => absurd z (Nat.lt_irrefl 0), h0, fun _ _ z => z⟩ ?_ ?_
  · rintro i h1 hi ⟨F1, ⟨w1, w2, w3⟩, w4, w5, w6, w7⟩ nx
    have K1 := sp_fr K F1
    have L1 := lk_fr L F1
    have hlt := it_lt (tuP P) ho i
    obtain ⟨f, ef⟩ : ∃ f, f = it (tu m) i o := ⟨_, rfl⟩
    have tun : it (tu m) (i + 1) o = tu m f := by rw [it_s, ef]
    rw [tun] at nx
    rw [← ef] at hlt w2 w3 w4 ⊢
    have hml := P.lt hlt
    have c160 : (160 : Int32) ≤ nI i ↔ 160 ≤ i := nI_leI (a := 160) (by omega) (by omega)
    have fo : i = 0 → f = o := fun z => by rw [ef, z]; rfl
    refine X1_walkStrand_5 ⟨fun w => by have := c160.mp w; omega, fun _ => ⟨o82 K1, 83, r82_0 K1, (s83 K1 _).mpr ((ix_nI (by omega)).mpr (by omega)), ?_⟩⟩
    rw [nI_clamp (by omega)]
    refine ⟨fun z => ?_, fun z => ?_⟩
    · -- marked already
      have mk : ah_i h1 83 f = nI q := by
        rcases w6 f hlt w4 with y | y
        · rw [y] at z; exact absurd z (by decide)
        · exact y
      refine k h1 F1 w1 (fun x hx fx => ⟨(w2 x hx fx).1, fun od => ?_⟩) ?_ w7
      · rcases (w2 x hx fx).2 od with y | y | y
        · exact Or.inl y
        · exact Or.inr y
        · left; rw [y]; exact mk
      · by_cases i0 : i = 0
        · rw [← fo i0]; exact mk
        · exact w5 (by omega)
    · have un : ah_i h1 83 f = m1 := by
        rcases w6 f hlt w4 with y | y
        · exact y
        · rw [y] at z
          exact absurd ((nI_leI (a := 0) (by omega) (by omega)).mpr (Nat.zero_le _)) z
      have q1 : ah_f h1 82 2 = nI q := by rw [fr_f F1 82 (by decide)]; exact hq
      have m1_ : ah_i h1 (lb + 1) f = nI (m f) := by rw [fr_i F1 (lb + 1) (by simp only [List.mem_cons, List.not_mem_nil, or_false]; omega)]; exact hm f hlt
      refine ⟨lk_o L1, lb + 1, lk_r0 L1, ?_⟩
      rw [lk_s0 L1, ix_nI (by omega)]
      refine ⟨by omega, fun x9 e9 => ?_⟩
      rw [m1_] at e9
      subst e9
      rw [q1]
      refine ⟨(t83 K1 _).mpr ((ix_nI (by omega)).mpr (by omega)), fun h10 e10 => ?_⟩
      have F10 : fr [83] h h10 := by rw [e10]; exact fr_si F1 (by decide)
      have K10 := sp_fr K F10
      have q10 : ah_f h10 82 2 = nI q := by rw [fr_f F10 82 (by decide)]; exact hq
      rw [q10]
      refine ⟨(t83 K10 _).mpr ((ix_nI (by omega)).mpr (by omega)), fun h12 e12 => ?_⟩
      rw [nI_clamp (by omega)] at e12
      have F12 : fr [83] h h12 := by rw [e12]; exact fr_si F10 (by decide)
      have i12 : ah_i h12 83 = u1 (u1 (ah_i h1 83) f (nI q)) (m f) (nI q) := by rw [e12, i_si_s, e10, i_si_s]
      have new : ∀ x, ah_i h12 83 x = if x = f ∨ x = m f then nI q else ah_i h1 83 x := fun x => by
        rw [i12]
        unfold u1
        by_cases a : x = m f
        · rw [if_pos a, if_pos (Or.inr a)]
        · rw [if_neg a]
          by_cases b : x = f
          · rw [if_pos b, if_pos (Or.inl b)]
          · rw [if_neg b, if_neg (fun z => by rcases z with z | z; exact b z; exact a z)]
      have up : ∀ x, ah_i h1 83 x = nI q → ah_i h12 83 x = nI q := fun x y => by
        rw [new]
        split
        · rfl
        · exact y
      have nf : ah_i h12 83 f = nI q := by rw [new, if_pos (Or.inl rfl)]
      have nm : ah_i h12 83 (m f) = nI q := by rw [new, if_pos (Or.inr rfl)]
      have sm_ := sg_trans w4 (sg_m (n := n) (m := m) hlt)
      have v1 : ∀ x, x < 4 * n → ah_i h12 83 x = F0 x ∨ (ah_i h12 83 x = nI q ∧ sg n m e x) := fun x hx => by
        rw [new]
        by_cases a : x = f ∨ x = m f
        · rw [if_pos a]
          right
          rcases a with a | a
          · rw [a]; exact ⟨rfl, w4⟩
          · rw [a]; exact ⟨rfl, sm_⟩
        · rw [if_neg a]
          exact w1 x hx
      have v2 : ∀ x, x < 4 * n → ah_i h12 83 x = nI q → ah_i h12 83 (m x) = nI q ∧ (x % 2 = 1 → ah_i h12 83 (cn x 2) = nI q ∨ ex x ∨ (x = m f ∧ m f % 2 = 1)) := fun x hx y => by
        by_cases a : x = f
        · rw [a]
          refine ⟨nm, fun od => ?_⟩
          rcases w3 with b | b | b
          · exact Or.inr (Or.inl b)
          · exact Or.inl (up _ b)
          · omega
        · by_cases b : x = m f
          · rw [b, P.mm hlt]
            exact ⟨nf, fun od => Or.inr (Or.inr ⟨rfl, od⟩)⟩
          · rw [new, if_neg (fun z => by rcases z with z | z; exact a z; exact b z)] at y
            obtain ⟨c1, c2⟩ := w2 x hx y
            refine ⟨up _ c1, fun od => ?_⟩
            rcases c2 od with c | c | c
            · exact Or.inl (up _ c)
            · exact Or.inr (Or.inl c)
            · left; rw [c]; exact nf
      have v6 : ∀ x, x < 4 * n → sg n m e x → ah_i h12 83 x = m1 ∨ ah_i h12 83 x = nI q := fun x hx y => by
        rw [new]
        split
        · exact Or.inr rfl
        · exact w6 x hx y
      have vo : ah_i h12 83 o = nI q := by
        by_cases i0 : i = 0
        · rw [← fo i0]; exact nf
        · exact up _ (w5 (by omega))
      have a1 : (nI (m f) &&& 1 : Int32) = nI (m f % 2) := and1 (by omega)
      have a0 : nI (m f % 2) = 0 ↔ m f % 2 = 0 := nI_eq (b := 0) (by omega) (by omega)
      rw [a1, a0]
      refine ⟨fun od x15 e15 x16 e16 => ?_, fun ev => ?_⟩
      · have e15' : x15 = nI (tu m f) := by rw [e15]; exact corner_nI (k := 2) (by omega) (by omega)
        have e16' : x16 = nI (i + 1) := by rw [e16]; exact nI_add _ 1
        rw [e15', e16']
        refine nx h12 ⟨F12, ⟨v1, fun x hx y => ⟨(v2 x hx y).1, fun odx => ?_⟩, ?_⟩, sg_trans sm_ (sg_2 hml (by omega)), fun _ => vo, v6, fun x hx y => up x (w7 x hx y)⟩
        · rcases (v2 x hx y).2 odx with c | c | c
          · exact Or.inl c
          · exact Or.inr (Or.inl c)
          · right; right; rw [c.1]; rfl
        · right; left
          show ah_i h12 83 (cn (cn (m f) 2) 2) = nI q
          rw [cn_22]
          exact nm
      · refine k h12 F12 v1 (fun x hx y => ⟨(v2 x hx y).1, fun odx => ?_⟩) vo (fun x hx y => up x (w7 x hx y))
        rcases (v2 x hx y).2 odx with c | c | c
        · exact Or.inl c
        · exact Or.inr c
        · omega
  · rintro h1 ⟨F1, ⟨w1, w2, w3⟩, w4, w5, w6, w7⟩
    have K1 := sp_fr K F1
    have p0 := hp.1
    rw [hp.2.1] at w2 w3 w4 ⊢
    have mk := w5 p0
    have p160 : p ≤ 160 := by omega
    refine X1_walkStrand_5 ⟨fun w => ?_, fun w => ⟨o82 K1, 83, r82_0 K1, (s83 K1 _).mpr ((ix_nI (by omega)).mpr (by omega)), ?_⟩⟩
    · refine k h1 F1 w1 (fun x hx fx => ⟨(w2 x hx fx).1, fun od => ?_⟩) mk w7
      rcases (w2 x hx fx).2 od with y | y | y
      · exact Or.inl y
      · exact Or.inr y
      · left; rw [y]; exact mk
    · rw [nI_clamp (by omega), mk]
      refine ⟨fun _ => ?_, fun z => absurd ((nI_leI (a := 0) (by omega) (by omega)).mpr (Nat.zero_le _)) z⟩
      refine k h1 F1 w1 (fun x hx fx => ⟨(w2 x hx fx).1, fun od => ?_⟩) mk w7
      rcases (w2 x hx fx).2 od with y | y | y
      · exact Or.inl y
      · exact Or.inr y
      · left; rw [y]; exact mk
/-- how many strands -/
theorem c_findStrands {lb : Nat} (K : sp h) (L : lk h lb) (hlb : lb + 11 ≤ 82) (P : Pr n A m) (h40 : n ≤ 40) (hn : ah_f h lb 10 = nI n) (hm : ∀ x, x < 4 * n → ah_i h (lb + 1) x = nI (m x))
    (k : ∀ h', fr [82, 83] h h' → ah_f h' 82 2 = nI (ct (lm (sg n m)) (4 * n)) → (∀ x y, x < 4 * n → y < 4 * n → lm (sg n m) y → sg n m y x → ah_i h' 83 x = nI (ct (lm (sg n m)) y)) → Q none h') : ex_S yX1_findStrands mX1_findStrands (d + 2) [.ref 82, .ref lb] h bc bs Q := by
  have Qe := sg_EQ P
  refine X1_findStrands_e (X1_findStrands_0 ⟨o82 K, 83, r82_0 K, j_fill (n := 160) (by exact sp_x K 83 (by decide) rfl) (by omega) _ ⟨rfl, ?_⟩⟩)
  have F3 : fr [82, 83] h (ah_wi h 83 (fl (ah_i h 83) 160 (-1))) := fr_wi (fr_refl _ h) (by decide)
  refine ⟨o82 (sp_fr K F3), fun h5 e5 => ?_⟩
  have F5 : fr [82, 83] h h5 := by rw [e5]; exact fr_sf F3 (by decide)
  have z5 : ah_f h5 82 2 = nI 0 := by rw [e5, f_sf_s]; exact u1_s _ _ _
  have i5 : ∀ x, x < 160 → ah_i h5 83 x = m1 := fun x hx => by
    rw [e5, i_sf, i_wi_s]
    unfold fl
    rw [if_pos hx]
    rfl
  have fo : (4 : Int32) * nI n = nI (4 * n) := pk_mul 4 n
  have nb : lb ∉ [82, 83] ∧ lb + 1 ∉ [82, 83] := by simp only [List.mem_cons, List.not_mem_nil, or_false]; omega
  refine lp (4 * n) (fun e h' => fr [82, 83] h h' ∧ ah_f h' 82 2 = nI (ct (lm (sg n m)) e) ∧ (∀ x y, x < 4 * n → y < e → lm (sg n m) y → sg n m y x → ah_i h' 83 x = nI (ct (lm (sg n m)) y)) ∧ ∀ x, x < 4 * n → (¬ ∃ y, y < e ∧ sg n m y x) → ah_i h' 83 x = m1) (fun e h' => ex_G mX1_findStrands (d + 2) 15 [.ref 82, .ref lb, .int (nI e)] [] h' bc bs Q) ⟨F5, z5, fun x y _ hy => absurd hy (Nat.not_lt_zero y), fun x hx _ => i5 x (by omega)⟩ ?_ ?_
  · rintro e h1 he ⟨F1, z1, I1, I2⟩ nx
    have K1 := sp_fr K F1
    have L1 := lk_fr L F1
    have cle := ct_le (lm (sg n m)) e
    refine X1_findStrands_15 ⟨lk_o L1, ?_⟩
    rw [fr_f F1 lb nb.1, hn, fo, nI_leI (by omega) (by omega)]
    refine ⟨fun w => by omega, fun _ => ⟨o82 K1, 83, r82_0 K1, (s83 K1 _).mpr ((ix_nI (by omega)).mpr (by omega)), ?_⟩⟩
    rw [nI_clamp (by omega)]
    have lmx : ∀ x, x < 4 * n → (∃ y, y < e ∧ sg n m y x) → ∃ y, y < e ∧ lm (sg n m) y ∧ sg n m y x := fun x hx ⟨y, hy, o⟩ => by
      obtain ⟨y', a, b, c⟩ := lm_ex Qe (show y < 4 * n by omega)
      exact ⟨y', by omega, a, sg_trans b o⟩
    by_cases old : ∃ y, y < e ∧ sg n m y e
    · obtain ⟨y, hy, ly, o⟩ := lmx e he old
      have v := I1 e y he hy ly o
      have cy := ct_le (lm (sg n m)) y
      have nl : ¬ lm (sg n m) e := fun q => by
        have := q y (Qe.2.1 _ _ (by omega) o)
        omega
      refine ⟨fun w => ?_, fun _ x17 e17 => ?_⟩
      · rw [v] at w
        have := (nI_ltI (b := 0) (by omega) (by omega)).mp w
        omega
      · have e17' : x17 = nI (e + 1) := by rw [e17]; exact nI_add _ 1
        rw [e17']
        refine nx h1 ⟨F1, by rw [ct_n nl]; exact z1, fun x y' hx hy' ly' o' => ?_, fun x hx no => I2 x hx (fun ⟨y', a, b⟩ => no ⟨y', by omega, b⟩)⟩
        refine I1 x y' hx ?_ ly' o'
        have : y' ≠ e := fun z => nl (z ▸ ly')
        omega
    · have v := I2 e he old
      have le_ : lm (sg n m) e := fun f o => by
        by_cases q : e ≤ f
        · exact q
        · exact absurd ⟨f, by omega, Qe.2.1 _ _ he o⟩ old
      have cl_ : ∀ x, x < 4 * n → sg n m e x → ¬ ∃ y, y < e ∧ sg n m y x := fun x hx o ⟨y, hy, o2⟩ => old ⟨y, hy, sg_trans o2 (Qe.2.1 _ _ he o)⟩
      have noq : ∀ x, x < 4 * n → ah_i h1 83 x ≠ nI (ct (lm (sg n m)) e) := fun x hx w => by
        by_cases q : ∃ y, y < e ∧ sg n m y x
        · obtain ⟨y, hy, ly, o⟩ := lmx x hx q
          have cy := ct_lt (p := lm (sg n m)) hy ly
          rw [I1 x y hx hy ly o, nI_eq (by omega) (by omega)] at w
          omega
        · rw [I2 x hx q] at w
          exact m1_en (by omega) w
      refine ⟨fun _ => ?_, fun w => absurd (by rw [v]; decide) w⟩
      have fin : ∀ h7, fr [82, 83] h h7 → ah_f h7 82 2 = nI (ct (lm (sg n m)) e) → (∀ x, x < 4 * n → ah_i h7 83 x = ah_i h1 83 x ∨ (ah_i h7 83 x = nI (ct (lm (sg n m)) e) ∧ sg n m e x)) → (∀ x, x < 4 * n → ah_i h7 83 x = nI (ct (lm (sg n m)) e) → ah_i h7 83 (m x) = nI (ct (lm (sg n m)) e) ∧ (x % 2 = 1 → ah_i h7 83 (cn x 2) = nI (ct (lm (sg n m)) e))) → ah_i h7 83 e = nI (ct (lm (sg n m)) e) → ∀ h10 x11, h10 = ah_sf h7 82 2 (ah_f h7 82 2 + 1) → x11 = nI e + 1 → ex_G mX1_findStrands (d + 2) 15 [.ref 82, .ref lb, .int x11] [] h10 bc bs Q := by
        intro h7 F7 z7 g1 g2 g3 h10 x11 e10 e11
        have e11' : x11 = nI (e + 1) := by rw [e11]; exact nI_add _ 1
        rw [e11']
        have F10 : fr [82, 83] h h10 := by rw [e10]; exact fr_sf F7 (by decide)
        have i10 : ah_i h10 83 = ah_i h7 83 := by rw [e10, i_sf]
        have f10 : ah_f h10 82 2 = nI (ct (lm (sg n m)) e + 1) := by rw [e10, f_sf_s, u1_s, z7]; exact nI_add _ 1
        have full : ∀ x, x < 4 * n → sg n m e x → ah_i h7 83 x = nI (ct (lm (sg n m)) e) := fun x hx o => (o (fun z => z < 4 * n ∧ ah_i h7 83 z = nI (ct (lm (sg n m)) e)) ⟨he, g3⟩ (fun y hy w => ⟨P.lt hy, (g2 y hy w.2).1⟩) (fun y hy od w => ⟨cn_lt 2 hy, (g2 y hy w.2).2 od⟩)).2
        refine nx h10 ⟨F10, by rw [ct_y le_]; exact f10, fun x y hx hy ly o => ?_, fun x hx no => ?_⟩
        · rw [i10]
          by_cases w : y = e
          · subst w
            exact full x hx o
          · rcases g1 x hx with z | z
            · rw [z]; exact I1 x y hx (by omega) ly o
            · exact absurd ⟨y, by omega, o⟩ (cl_ x hx z.2)
        · rw [i10]
          rcases g1 x hx with z | z
          · rw [z]; exact I2 x hx (fun ⟨y, a, b⟩ => no ⟨y, by omega, b⟩)
          · exact absurd ⟨e, by omega, z.2⟩ no
      have a1 : (nI e &&& 1 : Int32) = nI (e % 2) := and1 (by omega)
      have a0 : nI (e % 2) = 1 ↔ e % 2 = 1 := nI_eq (b := 1) (by omega) (by omega)
      have hm1 : ∀ h', fr [82, 83] h h' → ∀ x, x < 4 * n → ah_i h' (lb + 1) x = nI (m x) := fun h' F' x hx => by rw [fr_i F' _ nb.2]; exact hm x hx
      refine c_walkStrand (d := d) (q := ct (lm (sg n m)) e) (e := e) (F0 := ah_i h1 83) (ex := fun x => x = e ∧ e % 2 = 1) K1 L1 hlb P h40 (hm1 h1 F1) z1 (by omega) he (sg_refl e) (fun x hx o => Or.inl (I2 x hx (cl_ x hx o))) ⟨fun x _ => Or.inl rfl, fun x hx w => absurd w (noq x hx), ?_⟩ (fun h7 F7 g1 g2 g3 g4 => ⟨rfl, ?_⟩)
      · by_cases w : e % 2 = 1
        · exact Or.inl ⟨rfl, w⟩
        · right; right; omega
      have F7' : fr [82, 83] h h7 := fr_trans F1 (fr_mono F7 (by decide))
      have K7 := sp_fr K F7'
      have z7 : ah_f h7 82 2 = nI (ct (lm (sg n m)) e) := by rw [fr_f F7 82 (by decide)]; exact z1
      rw [a1, a0]
      refine ⟨fun w => ⟨o82 K7, fun h10 e10 x11 e11 => fin h7 F7' z7 g1 (fun x hx y => ⟨(g2 x hx y).1, fun od => ?_⟩) g3 h10 x11 e10 e11⟩, fun w => ⟨o82 K7, ?_⟩⟩
      · rcases (g2 x hx y).2 od with z | z
        · exact z
        · exact absurd z.2 w
      · have ec : X11_corner_V (nI e) 2 h7 = nI (cn e 2) := corner_nI (k := 2) (by omega) (by omega)
        rw [ec]
        have hc := cn_lt 2 he
        refine c_walkStrand (d := d) (q := ct (lm (sg n m)) e) (e := e) (F0 := ah_i h1 83) (ex := fun _ => False) K7 (lk_fr L F7') hlb P h40 (hm1 h7 F7') z7 (by omega) hc (sg_2 he w) (fun x hx o => ?_) ⟨g1, fun x hx y => ⟨(g2 x hx y).1, fun od => ?_⟩, ?_⟩ (fun h9 F9 b1 b2 b3 b4 => ⟨rfl, ?_⟩)
        · rcases g1 x hx with z | z
          · left; rw [z]; exact I2 x hx (cl_ x hx o)
          · exact Or.inr z.1
        · rcases (g2 x hx y).2 od with z | z
          · exact Or.inl z
          · right; right; rw [z.1]
        · right; left
          rw [cn_22]
          exact g3
        · have F9' : fr [82, 83] h h9 := fr_trans F7' (fr_mono F9 (by decide))
          refine ⟨o82 (sp_fr K F9'), fun h15 e15 x16 e16 => fin h9 F9' (by rw [fr_f F9 82 (by decide)]; exact z7) b1 (fun x hx y => ⟨(b2 x hx y).1, fun od => ?_⟩) (b4 e he g3) h15 x16 e15 e16⟩
          rcases (b2 x hx y).2 od with z | z
          · exact z
          · exact z.elim
  · rintro h1 ⟨F1, z1, I1, I2⟩
    refine X1_findStrands_15 ⟨lk_o (lk_fr L F1), ?_⟩
    rw [fr_f F1 lb nb.1, hn, fo, nI_leI (by omega) (by omega)]
    exact ⟨fun _ => k h1 F1 z1 (fun x y hx hy ly o => I1 x y hx hy ly o), fun w => absurd (Nat.le_refl _) w⟩
end WALK
