/-! The class makes a bracket, and a polynomial. -/
def smb : List Nat := 32 :: smc
def fB (b : Nat) (h h' : AH) : Prop := ah_n h' = ah_n h ∧ ah_k h' = ah_k h ∧ ah_q h' = ah_q h ∧ (∀ a, a ≠ b → ah_r h' a = ah_r h a) ∧ ∀ a, a ∉ smb → (a ≠ b → ah_f h' a = ah_f h a) ∧ ah_i h' a = ah_i h a ∧ (a ≠ b + 1 → a ≠ b + 2 → ah_l h' a = ah_l h a)
theorem va_in {f g : Nat → Int32} {i n : Nat} (h : i < n) : va_cpy f g 0 0 n i = f i := by rw [pk_cpy_in (by omega) (by omega), Nat.sub_zero, Nat.zero_add]
theorem FI_m {n : Nat} {A m : Nat → Nat} (P : Pr n A m) : FI (4 * n) (RR n m 0 0) (fun x => 4 * 0 ≤ x) m := fun e he _ => ⟨P.lt he, Nat.zero_le _, P.ne he, Or.inr ⟨he, rfl⟩, fun f hf _ o => by
  rcases o with o | o
  · exact Or.inl o
  · exact Or.inr o.2⟩
theorem costV {n : Nat} (h14 : n ≤ 14) (h : AH) : X9_costOf_V (nI n) h = nI (2 ^ n) := by
  have key : ∀ n, n < 15 → (1 : Int32) <<< ((if (14 : Int32) < (if nI n < 0 then 0 else nI n) then 14 else (if nI n < 0 then 0 else nI n)) &&& 31) = nI (2 ^ n) := by decide
  exact key n (by omega)
theorem min14 {n : Nat} (h14 : n ≤ 14) (h : AH) : J9_min_7cf53_V (nI n) 14 h = nI n := by
  unfold J9_min_7cf53_V
  have c : (14 : Int32) < nI n ↔ 14 < n := nI_ltI (a := 14) (by omega) (by omega)
  rw [if_neg (fun w => by have := c.mp w; omega)]
theorem min37 {n : Nat} (h37 : n ≤ 37) (h : AH) : J9_min_7cf53_V (nI n) 37 h = nI n := by
  unfold J9_min_7cf53_V
  have c : (37 : Int32) < nI n ↔ 37 < n := nI_ltI (a := 37) (by omega) (by omega)
  rw [if_neg (fun w => by have := c.mp w; omega)]
theorem n64 {t : Nat} (h : t ≤ 1000000000) : Int32.toInt64 (nI t) = Int64.ofInt (t : Int) := Int32.toInt64_ofInt (n := (t : Int)) (by show (-2147483648 : Int) ≤ _; omega) (by show _ ≤ (2147483647 : Int); omega)
section CBRK
variable {h h' h2 : AH} {d bc bs b : Nat} {Q : Option Value → AH → Prop}
theorem fB_refl (b : Nat) (h : AH) : fB b h h := ⟨rfl, rfl, rfl, fun _ _ => rfl, fun _ _ => ⟨fun _ => rfl, rfl, fun _ _ => rfl⟩⟩
theorem fB_trans (x : fB b h h') (y : fB b h' h2) : fB b h h2 := ⟨y.1.trans x.1, y.2.1.trans x.2.1, y.2.2.1.trans x.2.2.1, fun a ha => (y.2.2.2.1 a ha).trans (x.2.2.2.1 a ha), fun a ha => ⟨fun h3 => ((y.2.2.2.2 a ha).1 h3).trans ((x.2.2.2.2 a ha).1 h3), (y.2.2.2.2 a ha).2.1.trans (x.2.2.2.2 a ha).2.1, fun h1 h3 => ((y.2.2.2.2 a ha).2.2 h1 h3).trans ((x.2.2.2.2 a ha).2.2 h1 h3)⟩⟩
theorem fB_fL (x : fL b h h') : fB b h h' := ⟨x.1, x.2.1, x.2.2.1, fun a ha => (x.2.2.2.1 a ha).1, fun a _ => ⟨fun ha => (x.2.2.2.1 a ha).2, by rw [x.2.2.2.2.1], x.2.2.2.2.2 a⟩⟩
theorem fB_fr (x : fr smb h h') : fB b h h' := ⟨x.1.1, x.1.2.1, x.1.2.2.2, fun a _ => by rw [x.1.2.2.1], fun a ha => ⟨fun _ => (x.2 a ha).1, (x.2 a ha).2.1, fun _ _ => (x.2 a ha).2.2⟩⟩
theorem sp_fB (K : sp h) (hb : hb3 b) (F : fB b h h') : sp h' := ⟨by rw [F.1]; exact K.1, by rw [F.2.1]; exact K.2.1, fun t ht => by
  have := hb3_R0 t ht
  rw [F.2.2.2.1 t.1 (by unfold hb3 at hb; omega)]
  exact K.2.2 t ht⟩
theorem hb3_smb (hb : hb3 b) : b ∉ smb ∧ b + 1 ∉ smb ∧ b + 2 ∉ smb := by
  rcases hb with e | e | e
  · subst e; decide
  · subst e; decide
  · subst e; decide
/-- the tally of a picture's smoothings -/
noncomputable def TY (n l : Nat) (m : Nat → Nat) : Nat → Nat → Nat := Tn (fun w => cy n m w + l) (on n) (2 ^ n)
theorem TY_z {n l : Nat} {m : Nat → Nat} {c z : Nat} (hz : z ≤ n) : ct (fun u => cy n m (0 + 2 ^ 0 * u) + l = c ∧ zr n (0 + 2 ^ 0 * u) = z) (2 ^ n) = TY n l m c (n - z) := by
  unfold TY Tn
  refine ct_congr (fun u _ => ?_)
  have e : 0 + 2 ^ 0 * u = u := by omega
  rw [e]
  have := zr_on n u
  constructor
  · rintro ⟨q1, q2⟩; exact ⟨q1, by omega⟩
  · rintro ⟨q1, q2⟩; exact ⟨q1, by omega⟩
theorem TY_le {n l : Nat} {m : Nat → Nat} (c s : Nat) : TY n l m c s ≤ 2 ^ n := ct_le _ _
theorem sup140_hor {T : Nat → Nat → Nat} {n c r : Nat} (hn : n ≤ 14) (hr : r ≤ 37) : sup140 (hor T n c r) := fun k hk => hor_supp c r k (by omega)
theorem sup140_dl {P : Int → Int} (h : ∀ k, k < -138 ∨ 138 < k → P k = 0) : sup140 (dl P) := fun k hk => by
  unfold dl
  rw [h _ (by omega), h _ (by omega)]
  rfl
theorem LA_i {x y : Nat} {P : Int → Int} (L : LA h b x y P) (F : fr smb h h') (hb : hb3 b) : LA h' b x y P := by
  have hs := hb3_smb hb
  have e : x ∉ smb := by
    rcases (LA_xb L).1 with q | q
    · rw [q]; exact hs.2.1
    · rw [q]; exact hs.2.2
  exact ⟨L.1, by rw [F.1.2.2.1]; exact L.2.1, by rw [F.1.2.2.1]; exact L.2.2.1, fun k hk => by rw [fr_l F x e]; exact L.2.2.2 k hk⟩
theorem c_makeBracket {lb n l w x y : Nat} {A m : Nat → Nat} {P0 : Int → Int} (K : sp h) (hb : hb3 b) (Lk : lk h lb) (hlb : lb + 11 ≤ 32) (P : Pr n A m) (h14 : n ≤ 14) (h9 : l ≤ 9) (hn : ah_f h lb 10 = nI n) (hl : ah_f h lb 11 = nI l) (hm : ∀ x, x < 4 * n → ah_i h (lb + 1) x = nI (m x)) (hq : ∀ i, i < 38 → ah_q h 34 i = some (35 + i)) (hw : ah_f h 32 3 = nI w) (L : LA h b x y P0)
    (k : ∀ h' x' y', fB b h h' → LA h' b x' y' (brk (TY n l m) n (2 * n + l)) → ah_f h' b 2 = nI 1 → ah_f h' 32 3 = nI (w + 2 ^ n) → Q none h') : ex_S yX9_makeBracket mX9_makeBracket (d + 17) [.ref 32, .ref lb, .ref b] h bc bs Q := by
  have hb' := hb
  unfold hb3 at hb'
  refine X9_makeBracket_e (X9_makeBracket_0 ⟨lk_o Lk, o32 K, fun h3 e3 h4 e4 x5 e5 => ?_⟩)
  have F3 : fr smb h h3 := by rw [e3]; exact fr_sf (fr_refl _ h) (by decide)
  have f3 : ah_f h3 32 = u1 (ah_f h 32) 2 (nI n) := by rw [e3, f_sf_s, hn, min14 h14]
  have F4 : fr smb h h4 := by rw [e4]; exact fr_sf F3 (by decide)
  have f4 : ah_f h4 32 = u1 (u1 (ah_f h 32) 2 (nI n)) 3 (nI (w + 2 ^ n)) := by rw [e4, f_sf_s, f3, u1_s, u1_n _ _ (by decide), hw, costV h14, nI_add]
  have lbs : lb ∉ smb := fun q => by have := (by decide : ∀ a, a ∈ smb → 32 ≤ a) lb q; omega
  have lbs1 : lb + 1 ∉ smb := fun q => by have := (by decide : ∀ a, a ∈ smb → 32 ≤ a) (lb + 1) q; omega
  have e5' : x5 = nI (2 * n + l) := by
    rw [e5, f4, u1_n _ _ (by decide), u1_s, fr_f F4 lb lbs, hl]
    have : (2 : Int32) * nI n = nI (2 * n) := pk_mul 2 n
    rw [this, nI_add, min37 (by omega)]
  clear e5 e4 e3 f3 F3
  subst e5'
  -- the rows are cleared
  refine lp (2 * n + l + 1) (fun j h' => fr smb h h' ∧ ah_f h' 32 = ah_f h4 32 ∧ ∀ c z, c < j → z < 15 → ah_i h' (35 + c) z = nI 0) (fun j h' => ex_G mX9_makeBracket (d + 17) 49 [.ref 32, .ref lb, .ref b, .int (nI (2 * n + l)), .int (nI j), .retAddr 0] [] h' bc bs Q) ⟨F4, rfl, fun c z hc => absurd hc (Nat.not_lt_zero c)⟩ ?_ ?_
  · rintro j h5 hj ⟨F5, f5, I⟩ nx
    have K5 := sp_fr K F5
    have e1 : nI j + 1 = nI (j + 1) := nI_add _ 1
    refine X9_makeBracket_49 ⟨fun w => ?_, fun _ => ⟨o32 K5, 34, r32_1 K5, (s34 K5 _).mpr ((ix_nI (by omega)).mpr (by omega)), 35 + j, by rw [nI_clamp (by omega), F5.1.2.2.2]; exact hq j (by omega), j_fill (tl_x K5 (by omega)) (by decide) 0 ⟨rfl, fun x16 e16 => ?_⟩⟩⟩
    · rw [nI_ltI (by omega) (by omega)] at w
      omega
    · rw [e16, e1]
      have g6 : ∀ c, ah_i (ah_wi h5 (35 + j) (fl (ah_i h5 (35 + j)) 15 0)) c = if c = 35 + j then fl (ah_i h5 (35 + j)) 15 0 else ah_i h5 c := fun c => by
        by_cases q : c = 35 + j
        · rw [if_pos q, q, i_wi_s]
        · rw [if_neg q, i_wi_n _ _ _ _ q]
      have F6 : fr smb h (ah_wi h5 (35 + j) (fl (ah_i h5 (35 + j)) 15 0)) := fr_wi F5 (List.mem_cons_of_mem _ (smc_row (by omega)))
      have f6 : ah_f (ah_wi h5 (35 + j) (fl (ah_i h5 (35 + j)) 15 0)) 32 = ah_f h5 32 := by rw [f_wi]
      generalize ah_wi h5 (35 + j) (fl (ah_i h5 (35 + j)) 15 0) = h6 at g6 F6 f6 ⊢
      refine nx h6 ⟨F6, by rw [f6, f5], fun c z hc hz => ?_⟩
      rw [g6]
      by_cases q : c = j
      · rw [if_pos (by omega), fl_in hz]; rfl
      · rw [if_neg (by omega)]; exact I c z (by omega) hz
  rintro h5 ⟨F5, f5, I5⟩
  have K5 := sp_fr K F5
  have Lk5 : lk h5 lb := lk_fr Lk F5
  have n5 : ah_f h5 32 2 = nI n := by rw [f5, f4, u1_n _ _ (by decide), u1_s]
  have e4n : (4 : Int32) * nI n = nI (4 * n) := pk_mul 4 n
  have cl0 : Int32.toNatClampNeg 0 = 0 := nI_clamp (n := 0) (by decide)
  refine X9_makeBracket_49 ⟨fun _ => ⟨lk_o Lk5, lb + 1, lk_r0 Lk5, o32 K5, 33, r32_0 K5, ?_⟩, fun w => absurd ((nI_ltI (by omega) (by omega)).mpr (by omega)) w⟩
  rw [n5, e4n, nI_clamp (show 4 * n < 2 ^ 31 by omega), cl0]
  refine ⟨cp_nI (sp_ := 0) (dp := 0) (n := 4 * n) (lk_x0 Lk5) (sp_x K5 33 (by decide) rfl) (by omega) (by omega) (by decide) (by decide), fun h7 e7 => ?_⟩
  have F7 : fr smb h h7 := by rw [e7]; exact fr_wi F5 (by decide)
  have K7 := sp_fr K F7
  have f7 : ah_f h7 32 = ah_f h4 32 := by rw [e7, f_wi, f5]
  have g7 : ∀ z, z < 4 * n → ah_i h7 33 z = nI (m z) := fun z hz => by rw [e7, i_wi_s, va_in hz, fr_i F5 (lb + 1) lbs1]; exact hm z hz
  have t7 : tl (2 * n + l + 1) h7 (fun _ _ => 0) := fun c z hc hz => by rw [e7, i_wi_n _ _ _ _ (by omega)]; exact I5 c z hc hz
  have l7 : ah_f h7 lb 11 = nI (l + 0) := by rw [fr_f F7 lb lbs]; exact hl
  clear e7 I5 n5 cl0 e4n f5 F5 K5 Lk5
  have ed : d + 16 = d + (15 - n) + n + 1 := by omega
  have e00 : (Value.int 0) = Value.int (nI 0) := rfl
  rw [l7, ed]
  refine c_smoothF P h14 h9 (d + (15 - n)) n 0 0 h7 m 0 0 0 0 (fun _ _ => 0) _ (by omega) (by decide) K7 (by rw [F7.1.2.2.2]; exact hq) (by rw [f7, f4, u1_n _ _ (by decide), u1_s]) (FI_m P) g7 (by have := ct_r0 P; show ct (lm (r0 m (4 * n))) (4 * n) + 2 * 0 = 2 * n + 0; omega) rfl t7 (fun h8 F8 _ t8 => ⟨rfl, ?_⟩)
  rw [← ed]
  have F8' : fr smb h h8 := fr_trans F7 (fr_mono F8 (fun a ha => List.mem_cons_of_mem _ ha))
  have K8 := sp_fr K F8'
  have f8 : ah_f h8 32 = ah_f h4 32 := by rw [fr_f F8 32 (by decide), f7]
  have T8 : ∀ c z, c < 2 * n + l + 1 → z ≤ n → ah_i h8 (35 + c) z = nI (TY n l m c (n - z)) := fun c z hc hz => by
    rw [t8 c z hc (by omega)]
    show nI (0 + ct (fun u => cy n m (0 + 2 ^ 0 * u) + l = c ∧ zr n (0 + 2 ^ 0 * u) = z) (2 ^ n)) = _
    rw [TY_z hz, Nat.zero_add]
  clear t8 t7 g7 F7 K7 f7 l7 F8
  refine ⟨la_o K8 hb, c_lempty (d := d + 15) K8 hb (LA_i L F8' hb) (fun h9_ F9 L9 m9 => ⟨rfl, ?_⟩)⟩
  -- Horner
  refine lp (2 * n + l) (fun j h' => fL b h8 h' ∧ ah_f h' b 2 = nI 1 ∧ ∃ x y, LA h' b x y (hor (TY n l m) n (2 * n + l - j) j)) (fun j h' => ex_G mX9_makeBracket (d + 17) 108 [.ref 32, .retAddr 0, .ref b, .retAddr 0, .int (nI (2 * n + l - j)), .retAddr 0] [] h' bc bs Q) ⟨F9, m9, x, y, L9⟩ ?_ ?_
  · rintro j h10 hj ⟨F10, m10, x1, y1, L10⟩ nx
    have K10 := sp_fL K8 hb F10
    obtain ⟨c, hc⟩ : ∃ c, 2 * n + l - j = c + 1 := ⟨2 * n + l - j - 1, by omega⟩
    rw [hc] at L10 ⊢
    refine X9_makeBracket_108 ⟨fun w => ?_, fun _ => ⟨la_o K10 hb, c_lmul (d := d + 15) K10 hb L10 (sup140_hor h14 (by omega)) (fun h11 F11 L11 m11 => ⟨rfl, ?_⟩)⟩⟩
    · have : nI (c + 1) < 1 ↔ c + 1 < 1 := nI_ltI (b := 1) (by omega) (by omega)
      have := this.mp w
      omega
    have F11' := fL_trans F10 F11
    refine lp (n + 1) (fun z h' => fL b h8 h' ∧ ah_f h' b 2 = nI 1 ∧ LA h' b y1 x1 (fun k => dl (hor (TY n l m) n (c + 1) j) k + zs (fun z => if k = 2 * (z : Int) - n then (TY n l m (c + 1) (n - z) : Int) else 0) z)) (fun z h' => ex_G mX9_makeBracket (d + 17) 121 [.ref 32, .retAddr 0, .ref b, .retAddr 0, .int (nI (c + 1)), .int (nI z)] [] h' bc bs Q) ⟨F11', by rw [m11]; exact m10, ?_⟩ ?_ ?_
    · have : (fun k => dl (hor (TY n l m) n (c + 1) j) k + zs (fun z => if k = 2 * (z : Int) - n then (TY n l m (c + 1) (n - z) : Int) else 0) 0) = dl (hor (TY n l m) n (c + 1) j) := funext (fun k => by rw [zs_0, Int.add_zero])
      rw [this]
      exact L11
    · rintro z h12 hz ⟨F12, m12, L12⟩ nz
      have K12 := sp_fL K8 hb F12
      have sz : ah_f h12 32 2 = nI n := by rw [(F12.2.2.2.1 32 (by omega)).2, f8, f4, u1_n _ _ (by decide), u1_s]
      have e1 : nI z + 1 = nI (z + 1) := nI_add _ 1
      have pw : (2 : Int32) * nI z - nI n = iI (2 * (z : Int) - n) := by
        have : (2 : Int32) * nI z = iI (2 * (z : Int)) := iI_mul 2 z
        rw [this, ← iI_n n, iI_sub]
      have tz : ah_i h12 (35 + (c + 1)) z = nI (TY n l m (c + 1) (n - z)) := by rw [F12.2.2.2.2.1]; exact T8 (c + 1) z (by omega) (by omega)
      have big : TY n l m (c + 1) (n - z) ≤ 1000000000 := Nat.le_trans (TY_le _ _) (Nat.le_trans (Nat.pow_le_pow_right (by decide) h14) (by decide))
      refine X9_makeBracket_121 ⟨o32 K12, fun w => ?_, fun _ => ⟨34, r32_1 K12, (s34 K12 _).mpr ((ix_nI (by omega)).mpr (by omega)), 35 + (c + 1), by rw [nI_clamp (by omega), F12.2.2.1, F8'.1.2.2.2]; exact hq _ (by omega), (ld0_x (tl_x K12 (by omega)) _ (by omega)).mpr ((ix_nI (by omega)).mpr (by omega)), la_o K12 hb, ?_⟩⟩
      · rw [sz, nI_ltI (by omega) (by omega)] at w
        omega
      rw [sz, pw, nI_clamp (by omega), tz, n64 big]
      refine c_ladd K12 hb L12 (by omega) (by omega) (fun h13 f13 F13 L13 => ⟨rfl, fun x10 e10 => ?_⟩)
      rw [e10, e1]
      refine nz h13 ⟨fL_trans F12 F13, ?_, ?_⟩
      · rw [f13]; exact m12
      · have : (fun k => dl (hor (TY n l m) n (c + 1) j) k + zs (fun z => if k = 2 * (z : Int) - n then (TY n l m (c + 1) (n - z) : Int) else 0) (z + 1)) = (fun k => (dl (hor (TY n l m) n (c + 1) j) k + zs (fun z => if k = 2 * (z : Int) - n then (TY n l m (c + 1) (n - z) : Int) else 0) z) + if k = 2 * (z : Int) - n then (TY n l m (c + 1) (n - z) : Int) else 0) := funext (fun k => by rw [zs_s, Int.add_assoc])
        rw [this]
        exact L13
    · rintro h12 ⟨F12, m12, L12⟩
      have K12 := sp_fL K8 hb F12
      have sz : ah_f h12 32 2 = nI n := by rw [(F12.2.2.2.1 32 (by omega)).2, f8, f4, u1_n _ _ (by decide), u1_s]
      have em1 : nI (c + 1) + (-1) = nI c := by
        have : iI ((c + 1 : Nat) : Int) + iI (-1) = iI (((c + 1 : Nat) : Int) + (-1)) := iI_add _ _
        rw [show ((c + 1 : Nat) : Int) + (-1) = (c : Int) by omega] at this
        exact this
      refine X9_makeBracket_121 ⟨o32 K12, fun _ x3 e3 => ?_, fun w => absurd (by rw [sz]; exact (nI_ltI (by omega) (by omega)).mpr (by omega)) w⟩
      rw [e3, em1]
      have st := nx h12
      rw [show 2 * n + l - (j + 1) = c by omega] at st
      refine st ⟨F12, m12, y1, x1, ?_⟩
      have : hor (TY n l m) n c (j + 1) = (fun k => dl (hor (TY n l m) n (c + 1) j) k + zs (fun z => if k = 2 * (z : Int) - n then (TY n l m (c + 1) (n - z) : Int) else 0) (n + 1)) := funext (fun k => by
        rw [hor_s]
        congr 1
        rw [← zs_rev]
        refine zs_congr (fun z hz => ?_)
        show (TY n l m (c + 1) (n - z) : Int) * (if k - ((n : Int) - 2 * ((n - z : Nat) : Int)) = 0 then 1 else 0) = _
        by_cases q : k = 2 * (z : Int) - n
        · rw [if_pos q, if_pos (by omega), Int.mul_one]
        · rw [if_neg q, if_neg (by omega), Int.mul_zero])
      rw [this]
      exact L12
  · rintro h10 ⟨F10, m10, x1, y1, L10⟩
    rw [Nat.sub_self] at L10 ⊢
    refine X9_makeBracket_108 ⟨fun _ => k h10 x1 y1 (fB_trans (fB_fr F8') (fB_fL F10)) L10 m10 ?_, fun w => absurd (show nI 0 < 1 by decide) w⟩
    rw [(F10.2.2.2.1 32 (by omega)).2, f8, f4, u1_s]
end CBRK
