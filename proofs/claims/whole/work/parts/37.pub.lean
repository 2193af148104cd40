/-! How a call ends on both sides; looking at a picture. -/
theorem ng_sub (a b : Nat) : (-nI a - nI b : Int32) = -nI (a + b) := by
  rw [← nI_add, Int32.neg_add, Int32.sub_eq_add_neg]
theorem ng_i {a : Nat} (h : a < 2 ^ 31) : (-nI a).toInt = -(a : Int) := sb_negT h
theorem ng_lt {a b : Nat} (ha : a < 2 ^ 31) (hb : b < 2 ^ 31) (h0 : 0 < a) : -nI a < nI b := Int32.lt_iff_toInt_lt.mpr (by rw [ng_i ha, nI_toInt hb]; omega)
theorem ng_nle {a b : Nat} (ha : a < 2 ^ 31) (hb : b < 2 ^ 31) (h0 : 0 < a) : ¬ nI b ≤ -nI a := fun q => by
  have := Int32.le_iff_toInt_le.mp q
  rw [ng_i ha, nI_toInt hb] at this
  omega
def R0 (h : AH) (W : Nat → Nat) (N : Nat) (B : Nat → Nat) (S : Nat → Int32) (len : Nat) : Prop := FC h ∧ R1 h W N B S len
/-- the search's cells as they were -/
def FS (W : Nat → Nat) (h h' : AH) : Prop := (∀ a, (125 ≤ a ∧ a ≤ 163 ∨ 209 ≤ a ∧ a ≤ 211 ∨ 216 ≤ a ∧ a < ah_n h ∧ 1000 ≤ W a) → eqc h h' a) ∧ (∀ k, 49 ≤ k → k ≤ 54 → ah_f h' 168 k = ah_f h 168 k) ∧ ∀ s, 264 ≤ s → s < 364 → sl h h' s
def DONE (h h' : AH) (W : Nat → Nat) (S : Nat → Int32) (len : Nat) : Prop := ∃ W' N' B', R0 h' W' N' B' S len ∧ FS W h h' ∧ (∀ a, a < ah_n h → W' a = W a) ∧ ah_n h ≤ ah_n h' ∧ ah_n h' ≤ ah_n h + 303
def cNo (h : AH) (v : Int32) : AH := ah_sf h 0 19 v
def cF (h : AH) (f : Nat) : AH := ah_si (ah_sf h 0 19 (-nI (10 + f))) 167 f (ah_i h 167 f + nI 1)
def mNo (h : AH) (v : Int32) : AH := ah_sf h 168 0 v
def mF (h : AH) (f : Nat) : AH := ah_sf (ah_si h 169 f (ah_i h 169 f + nI 1)) 168 0 (-nI (10 + f))
section PUB
variable {h hx hy : AH} {d bc bs : Nat} {Q : Option Value → AH → Prop} {W : Nat → Nat} {N : Nat} {B : Nat → Nat} {S : Nat → Int32} {len : Nat}
theorem c_no (K : sp h) (v : Nat) (h0 : v < 11) (k : Q (some (.int (-nI v))) (cNo h (-nI v))) : ex_S yX11_refuse mX11_refuse d [.ref 0, .int (-nI v)] h bc bs Q := by
  refine X11_refuse_e (X11_refuse_0 ?_)
  simp only [forall_eq]
  refine ⟨o0 K, fun _ => k, fun z => absurd ?_ z⟩
  have e : ∀ v, v < 11 → ((-10 : Int32) - -nI v < 1) := by decide
  exact e v h0
theorem c_f (K : sp h) (f : Nat) (h0 : 0 < f) (h9 : f ≤ 9) (k : Q (some (.int (-nI (10 + f)))) (cF h f)) : ex_S yX11_refuse mX11_refuse d [.ref 0, .int (-nI (10 + f))] h bc bs Q := by
  refine X11_refuse_e (X11_refuse_0 ?_)
  have e : ∀ f, f < 10 → (-nI 10 - -nI (10 + f) : Int32) = nI f := by decide
  have e1 := e f (by omega)
  simp (disch := omega) only [forall_eq, Option.some.injEq, exists_eq_left', Option.getD_some, e1, n_sf, k_sf, f_sf_s, f_sf_n, r_sf, i_sf, l_sf, q_sf, ld0_sf, st0_sf, ld1_sf, ld2_sf, ld3_sf, ah_o_sf, in__sf, cp__sf, ah_x_sf, ah_ra_sf, n_si, k_si, f_si, r_si, i_si_s, i_si_n, l_si, q_si, ld0_si, st0_si, ld1_si, ld2_si, ld3_si, ah_o_si, in__si, cp__si, ah_x_si, ah_ra_si, n_sl, k_sl, f_sl, r_sl, i_sl, l_sl_s, l_sl_n, q_sl, ld0_sl, st0_sl, ld1_sl, ld2_sl, ld3_sl, ah_o_sl, in__sl, cp__sl, ah_x_sl, ah_ra_sl, n_wi, k_wi, f_wi, r_wi, i_wi_s, i_wi_n, l_wi, q_wi, ld0_wi, st0_wi, ld1_wi, ld2_wi, ld3_wi, ah_o_wi, in__wi, cp__wi, ah_x_wi, ah_ra_wi, n_wl, k_wl, f_wl, r_wl, i_wl, l_wl_s, l_wl_n, q_wl, ld0_wl, st0_wl, ld1_wl, ld2_wl, ld3_wl, ah_o_wl, in__wl, cp__wl, ah_x_wl, ah_ra_wl, n_sr, k_sr, f_sr, r_sr_s, r_sr_n, i_sr, l_sr, q_sr, n_sq, k_sq, f_sq, r_sq, i_sq, l_sq, q_sq_s, q_sq_n, o0 K, r0_14 K, s167 K, t167 K, il_0, il_1, il_2, il_3, il_4, il_5, il_6, il_7, il_8, il_9, il_10, il_11, il_12, il_13, il_14, il_15, il_16, il_17, il_18, il_19, il_20, il_24, il_30, il_31, il_38, il_39, il_40, il_41, il_48, il_50, il_59, il_60, il_63, il_64, il_70, il_80, il_99, il_100, il_120, il_130, il_140, il_144, il_159, il_160, il_162, il_200, il_210, il_240, il_264, il_280, il_281, il_300, il_364, il_368, il_599, il_600, il_601, il_999, il_1610, il_1620, il_1800, il_4000, il_5000, il_7000, il_14500, il_58240, il_1000000, m1_e, nI_1, nI_add, pk_mul, pk_div, pk_sub, nI_clamp, nI_leI, nI_ltI, nI_eq, m1_lt, m1_le, m1_gt, m1_ge, m1_ne, m1_en, ix_nI, im_nI, and1, and3, sh2_, shr2, corner_nI, turned_nI]
  unfold cF at k
  exact ⟨trivial, fun z => by omega, fun _ => ⟨fun z => by omega, fun _ => ⟨by omega, by omega, k⟩⟩⟩
theorem FS_fcs (F : fcs h hx) : FS W h hx := by
  have e : ∀ a, a ∉ Cscr → eqc h hx a := F.2.1
  refine ⟨fun a ha => e a (fun q => ?_), fun k _ _ => by rw [(e 168 (by decide)).2.1], fun s _ _ => sl_of s (e 170 (by decide)).2.2.1 (e 171 (by decide)).2.2.1 (e 172 (by decide)).2.2.1 (e 173 (by decide)).2.2.1⟩
  have : ∀ a, a ∈ Cscr → a < 125 := by decide
  have := this a q
  omega
theorem FS_fms (F : fms h hx) : FS W h hx := by
  refine ⟨fun a ha => F.2.1 a (fun q => ?_), fun k k1 _ => F.2.2.2.1 k (by omega), fun s _ hs => F.2.2.2.2 s hs⟩
  have : ∀ a, a ∈ Mscr → 168 ≤ a ∧ a < 216 ∧ ¬ (209 ≤ a ∧ a ≤ 211) := by decide
  have := this a q
  omega
theorem FS_trans (hn : ah_n hx = ah_n h) (x : FS W h hx) (y : FS W hx hy) : FS W h hy := ⟨fun a ha => eqc_trans (x.1 a ha) (y.1 a (by rw [hn]; exact ha)), fun k k1 k2 => (y.2.1 k k1 k2).trans (x.2.1 k k1 k2), fun s s1 s2 => sl_trans (x.2.2 s s1 s2) (y.2.2 s s1 s2)⟩
theorem FS_f0 (k : Nat) (v : Int32) : FS W h (ah_sf h 0 k v) := ⟨fun a ha => ⟨rfl, f_sf_n _ _ _ _ _ (by omega), rfl, rfl, rfl, rfl⟩, fun j _ _ => by rw [f_sf_n _ _ _ _ _ (by decide)], fun s _ _ => sl_refl h s⟩
theorem FS_f168 (k : Nat) (v : Int32) (hk : k < 49 ∨ 54 < k) : FS W h (ah_sf h 168 k v) := ⟨fun a ha => ⟨rfl, f_sf_n _ _ _ _ _ (by omega), rfl, rfl, rfl, rfl⟩, fun j _ _ => by rw [f_sf_s, u1_n _ _ (by omega)], fun s _ _ => sl_refl h s⟩
theorem FS_i (a k : Nat) (v : Int32) (ha : a = 167 ∨ a = 169) : FS W h (ah_si h a k v) := ⟨fun b hb => ⟨rfl, rfl, i_si_n _ _ _ _ _ (by omega), rfl, rfl, rfl⟩, fun j _ _ => rfl, fun s _ _ => sl_of s (i_si_n _ _ _ _ _ (by omega)) (i_si_n _ _ _ _ _ (by omega)) (i_si_n _ _ _ _ _ (by omega)) (i_si_n _ _ _ _ _ (by omega))⟩
theorem FC_fcs (x : FC h) (F : fcs h hx) : FC hx := by
  have e : ∀ a, a ∉ Cscr → eqc h hx a := F.2.1
  unfold FC
  rw [(e 0 (by decide)).2.1, (e 168 (by decide)).2.1, (e 167 (by decide)).2.2.1, (e 169 (by decide)).2.2.1]
  exact x
theorem D_no (x : R0 h W N B S len) (F : fcs h hx) (v : Int32) (G : fms (cNo hx v) hy) : DONE h (mNo hy v) W S len := by
  have y := FC_fcs x.1 F
  have e : ∀ a, a ∉ Mscr → eqc (cNo hx v) hy a := G.2.1
  refine ⟨W, N, B, ⟨⟨?_, ?_, ?_, ?_⟩, R1_f168 (R1_fms (R1_f0 (R1_fcs x.2 F) 19 v (by omega)) G) 0 v (by omega)⟩, ?_, fun _ _ => rfl, ?_, ?_⟩
  · unfold mNo
    rw [f_sf_n _ _ _ _ _ (by decide), (e 0 (by decide)).2.1, f_sf_s, u1_s]
    unfold cNo
    rw [f_sf_s, u1_s]
  · unfold mNo
    rw [f_sf_n _ _ _ _ _ (by decide), (e 0 (by decide)).2.1, f_sf_s, u1_n _ _ (by decide), G.2.2.2.1 15 (by decide)]
    unfold cNo
    rw [f_sf_s, u1_n _ _ (by decide), f_sf_n _ _ _ _ _ (by decide)]
    exact y.2.1
  · unfold mNo
    rw [f_sf_n _ _ _ _ _ (by decide), (e 0 (by decide)).2.1, f_sf_s, u1_n _ _ (by decide), G.2.2.2.1 60 (by decide)]
    unfold cNo
    rw [f_sf_s, u1_n _ _ (by decide), f_sf_n _ _ _ _ _ (by decide)]
    exact y.2.2.1
  · intro k k1 k2
    show ah_i hy 167 k = ah_i hy 169 k
    rw [(e 167 (by decide)).2.2.1, (e 169 (by decide)).2.2.1]
    exact y.2.2.2 k k1 k2
  · have n1 : ah_n hy = ah_n h := G.1.trans F.1
    exact FS_trans n1 (FS_trans (hx := cNo hx v) F.1 (FS_trans F.1 (FS_fcs F) (FS_f0 19 v)) (FS_fms G)) (FS_f168 0 v (by omega))
  · show ah_n h ≤ ah_n hy
    rw [G.1]
    show ah_n h ≤ ah_n hx
    rw [F.1]
    exact Nat.le_refl _
  · show ah_n hy ≤ _
    rw [G.1]
    show ah_n hx ≤ _
    rw [F.1]
    omega
theorem D_f (x : R0 h W N B S len) (F : fcs h hx) {f : Nat} (f1 : 0 < f) (f9 : f ≤ 9) (G : fms (cF hx f) hy) : DONE h (mF hy f) W S len := by
  have y := FC_fcs x.1 F
  have e : ∀ a, a ∉ Mscr → eqc (cF hx f) hy a := G.2.1
  refine ⟨W, N, B, ⟨⟨?_, ?_, ?_, ?_⟩, R1_f168 (R1_i (R1_fms (R1_i (R1_f0 (R1_fcs x.2 F) 19 _ (by omega)) 167 _ _ (by omega)) G) 169 _ _ (by omega)) 0 _ (by omega)⟩, ?_, fun _ _ => rfl, ?_, ?_⟩
  · unfold mF
    rw [f_sf_n _ _ _ _ _ (by decide), f_si, (e 0 (by decide)).2.1, f_sf_s, u1_s]
    unfold cF
    rw [f_si, f_sf_s, u1_s]
  · unfold mF
    rw [f_sf_n _ _ _ _ _ (by decide), f_si, (e 0 (by decide)).2.1, f_sf_s, u1_n _ _ (by decide), f_si, G.2.2.2.1 15 (by decide)]
    unfold cF
    rw [f_si, f_sf_s, u1_n _ _ (by decide), f_sf_n _ _ _ _ _ (by decide)]
    exact y.2.1
  · unfold mF
    rw [f_sf_n _ _ _ _ _ (by decide), f_si, (e 0 (by decide)).2.1, f_sf_s, u1_n _ _ (by decide), f_si, G.2.2.2.1 60 (by decide)]
    unfold cF
    rw [f_si, f_sf_s, u1_n _ _ (by decide), f_sf_n _ _ _ _ _ (by decide)]
    exact y.2.2.1
  · intro k k1 k2
    unfold mF
    rw [i_sf, i_si_n _ _ _ _ _ (by decide), i_si_s, (e 167 (by decide)).2.2.1, (e 169 (by decide)).2.2.1]
    unfold cF
    rw [i_si_s, i_si_n _ _ _ _ _ (by decide), i_sf]
    by_cases z : k = f
    · subst z
      rw [u1_s, u1_s, y.2.2.2 k k1 k2]
    · rw [u1_n _ _ z, u1_n _ _ z]
      exact y.2.2.2 k k1 k2
  · have n1 : ah_n hy = ah_n h := G.1.trans F.1
    exact FS_trans (hx := ah_si hy 169 f (ah_i hy 169 f + nI 1)) n1 (FS_trans n1 (FS_trans (hx := cF hx f) F.1 (FS_trans (hx := ah_sf hx 0 19 (-nI (10 + f))) F.1 (FS_trans F.1 (FS_fcs F) (FS_f0 19 _)) (FS_i 167 _ _ (by omega))) (FS_fms G)) (FS_i 169 _ _ (by omega))) (FS_f168 0 _ (by omega))
  · show ah_n h ≤ ah_n hy
    rw [G.1]
    show ah_n h ≤ ah_n hx
    rw [F.1]
    exact Nat.le_refl _
  · show ah_n hy ≤ _
    rw [G.1]
    show ah_n hx ≤ _
    rw [F.1]
    omega
/-! small tests -/
theorem hasP {p : Int32} (hN : ah_f h 0 15 = nI N) (h24 : N ≤ 24) : X11_hasPicture_V 0 p h = nI 0 ↔ ¬ ix p N := by
  unfold X11_hasPicture_V
  rw [hN]
  rcases ix_cases p (n := N) (by omega) with q | q | ⟨j, hj, q⟩
  · rw [if_pos q.1]
    exact ⟨fun _ => q.2, fun _ => rfl⟩
  · rw [if_pos q.1]
    by_cases z : p < 0
    · rw [if_pos z]
      exact ⟨fun _ => q.2, fun _ => rfl⟩
    · rw [if_neg z]
      exact ⟨fun _ => q.2, fun _ => rfl⟩
  · subst q
    rw [if_neg (nI_pos (by omega)), if_neg (nI_ge hj (by omega)), ix_nI (by omega)]
    exact ⟨fun z => absurd z (by decide), fun z => absurd hj z⟩
/-- v is one of n: the class's way to ask it -/
theorem ask_ix {v : Int32} {n : Nat} (hn : n < 2 ^ 31) : ((if v < 0 then (0 : Int32) else if nI n ≤ v then 0 else 1) = nI 0) ↔ ¬ ix v n := by
  rcases ix_cases v (n := n) hn with q | q | ⟨j, hj, q⟩
  · rw [if_pos q.1]
    exact ⟨fun _ => q.2, fun _ => rfl⟩
  · rw [if_pos q.1]
    by_cases z : v < 0
    · rw [if_pos z]
      exact ⟨fun _ => q.2, fun _ => rfl⟩
    · rw [if_neg z]
      exact ⟨fun _ => q.2, fun _ => rfl⟩
  · subst q
    rw [if_neg (nI_pos (by omega)), if_neg (nI_ge hj (by omega)), ix_nI (by omega)]
    exact ⟨fun z => absurd z (by decide), fun z => absurd hj z⟩
theorem inx {v : Int32} {n : Nat} (hn : n < 2 ^ 31) (h : AH) : X12_in_V v.toInt64 0 (nI n - nI 1).toInt64 h = nI 0 ↔ ¬ ix v n := in_ix hn h
theorem hasPC (K : sp h) (p : Int32) : X11_hasPicture_C 0 p h := ⟨fun _ => trivial, fun _ => ⟨o0 K, trivial⟩⟩
theorem isP_ {p : Int32} (hN : ah_f h 168 6 = nI N) (h24 : N ≤ 24) : X12_isPicture_V 168 p h = nI 0 ↔ ¬ ix p N := by
  unfold X12_isPicture_V
  rw [hN]
  exact in_ix (by omega) h
theorem isPC (K : sp h) (p : Int32) : X12_isPicture_C 168 p h := ⟨o168 K, in_bo _ _ _ _, trivial⟩
theorem grC (K : sp h) (v : Int32) : X11_grant_C 0 v h := ⟨o0 K, trivial⟩
theorem noC (K : sp h) (v : Int32) : X12_no_C 168 v h := ⟨o168 K, trivial⟩
theorem weC (K : sp h) (v : Int32) : X12_well_C 168 v h := ⟨o168 K, trivial⟩
theorem meC (K : sp h) {f : Nat} (f9 : f ≤ 9) : X12_meets_C 168 (nI f) h := by
  unfold X12_meets_C X12_no_C
  refine ⟨o168 K, 169, r168_1 K, ?_, ?_, ⟨o168 K, trivial⟩, trivial⟩
  · rw [s169 K, ix_nI (by omega)]; omega
  · rw [t169 K, ix_nI (by omega)]; omega
theorem meH (K : sp h) {f : Nat} (f9 : f ≤ 9) : X12_meets_H 168 (nI f) h = mF h f := by
  unfold X12_meets_H X12_no_H mF
  rw [r168_1 K, Option.getD_some, nI_clamp (by omega)]
  have : (-10 : Int32) - nI f = -nI (10 + f) := ng_sub 10 f
  rw [this]
  rfl
theorem meV {f : Nat} : X12_meets_V 168 (nI f) h = -nI (10 + f) := ng_sub 10 f
theorem grV (v : Int32) : X11_grant_V 0 v h = v := rfl
theorem grH (v : Int32) : X11_grant_H 0 v h = cNo h (nI 0) := rfl
theorem noV (v : Int32) : X12_no_V 168 v h = v := rfl
theorem noH (v : Int32) : X12_no_H 168 v h = mNo h v := rfl
theorem weV (v : Int32) : X12_well_V 168 v h = v := rfl
theorem weH (v : Int32) : X12_well_H 168 v h = mNo h (nI 0) := rfl
/-- a look at a picture, on both sides -/
theorem lk7 (K : sp h) : lk h 7 := ⟨by decide, o7 K, fun k hk => by
  have : ∀ k, k < 10 → (7, k, 7 + 1 + k) ∈ R0L := by decide
  exact K.2.2 _ (this k hk), fun k hk => by
  have : ∀ k, k < 6 → 7 + 1 + k < 216 ∧ kd (7 + 1 + k) = (0, 160) := by decide
  exact sp_x K _ (this k hk).1 (this k hk).2, fun k hk => by
  have : ∀ k, k < 3 → 7 + 7 + k < 216 ∧ kd (7 + 7 + k) = (0, 40) := by decide
  exact sp_x K _ (this k hk).1 (this k hk).2, sp_x K 17 (by decide) rfl⟩
theorem lk18 (K : sp h) : lk h 18 := ⟨by decide, o18 K, fun k hk => by
  have : ∀ k, k < 10 → (18, k, 18 + 1 + k) ∈ R0L := by decide
  exact K.2.2 _ (this k hk), fun k hk => by
  have : ∀ k, k < 6 → 18 + 1 + k < 216 ∧ kd (18 + 1 + k) = (0, 160) := by decide
  exact sp_x K _ (this k hk).1 (this k hk).2, fun k hk => by
  have : ∀ k, k < 3 → 18 + 7 + k < 216 ∧ kd (18 + 7 + k) = (0, 40) := by decide
  exact sp_x K _ (this k hk).1 (this k hk).2, sp_x K 28 (by decide) rfl⟩
theorem lkc7 : ∀ a, a ∈ lkc 7 → a ∈ Cscr := by decide
theorem lkc18 : ∀ a, a ∈ lkc 18 → a ∈ Cscr := by decide
/-- what survey says of picture p at Look b -/
def LPs (h h' : AH) (b bp n r : Nat) (pl : Int32) : Prop := fr (lkc b) h h' ∧ ah_f h' b 10 = nI n ∧ ah_f h' b 11 = ah_f h bp 3 ∧ ah_f h' b 16 = nI r ∧ ah_f h' b 17 = pl ∧ opn n (ah_i h (bp + 1)) (ah_i h (bp + 2)) r pl ∧ (r = 0 → LF h' b n (mt n (AN (ah_i h (bp + 2)))))
theorem c_isWhole (x : R1 h W N B S len) {p b : Nat} (hp : p < N) (hb : b = 7 ∨ b = 18)
    (k : ∀ h' n r pl, ah_f h (B p) 2 = nI n → n ≤ 40 → LPs h h' b (B p) n r pl → Q (some (.int (if r = 0 then nI 1 else nI 0))) h') : ex_S yX11_isWhole mX11_isWhole (d + 4) [.ref 0, .int (nI p), .ref b] h bc bs Q := by
  have K := x.1
  obtain ⟨h24, hN, hN2, hP⟩ := x.2.2.2.1
  obtain ⟨hq, hX⟩ := hP p hp
  obtain ⟨x1, x2, x3, -, ⟨n, l, y1, y2, y3, y4, y5, y6, y7, y8, y9⟩, -⟩ := hX
  have L : lk h b := by
    rcases hb with z | z
    · rw [z]; exact lk7 K
    · rw [z]; exact lk18 K
  refine X11_isWhole_e (X11_isWhole_0 ?_)
  simp (disch := omega) only [forall_eq, Option.some.injEq, exists_eq_left', Option.getD_some, o0 K, r0_0 K, s1 K, hq, il_0, il_1, il_2, il_3, il_4, il_5, il_6, il_7, il_8, il_9, il_10, il_11, il_12, il_13, il_14, il_15, il_16, il_17, il_18, il_19, il_20, il_24, il_30, il_31, il_38, il_39, il_40, il_41, il_48, il_50, il_59, il_60, il_63, il_64, il_70, il_80, il_99, il_100, il_120, il_130, il_140, il_144, il_159, il_160, il_162, il_200, il_210, il_240, il_264, il_280, il_281, il_300, il_364, il_368, il_599, il_600, il_601, il_999, il_1610, il_1620, il_1800, il_4000, il_5000, il_7000, il_14500, il_58240, il_1000000, m1_e, nI_1, nI_add, pk_mul, pk_div, pk_sub, nI_clamp, nI_leI, nI_ltI, nI_eq, m1_lt, m1_le, m1_gt, m1_ge, m1_ne, m1_en, ix_nI, im_nI, and1, and3, sh2_, shr2, corner_nI, turned_nI]
  refine ⟨trivial, by omega, lk_o L, c_survey L x3 (by omega) y6 y1 rfl (fun _ _ => rfl) (fun _ _ => rfl) (fun h' r pl F a1 a2 a3 a4 a5 a6 => ?_)⟩
  have hk := k h' n r pl y1 y6.1 ⟨F, a1, a2, a3, a4, a5, a6⟩
  have hr := opn_le a5
  refine ⟨rfl, lk_o (lk_fr L F), ?_⟩
  rw [a3]
  by_cases z : r = 0
  · rw [if_pos z] at hk
    subst z
    exact ⟨fun w => absurd rfl w, fun _ => hk⟩
  · rw [if_neg z] at hk
    refine ⟨fun _ => hk, fun w => ?_⟩
    rw [nI_eq (by omega) (by omega)] at w
    exact absurd w z
theorem fms_open {h h' : AH} (F : fr [168, 176, 177, 178, 179, 180] h h') (f : ∀ k, k ≠ 9 → ah_f h' 168 k = ah_f h 168 k) : fms h h' := fms_fr F (by decide) f (fun s _ => sl_of s (fr_i F 170 (by decide)) (fr_i F 171 (by decide)) (fr_i F 172 (by decide)) (fr_i F 173 (by decide)))
/-- the reference's openOf of picture p; h0: a heap in which the class's picture is the same -/
theorem m_open (x : R1 h W N B S len) {p : Nat} (hp : p < N)
    (k : ∀ h' n r pl, ah_f h (B p) 2 = nI n → n ≤ 40 → fms h h' → ah_f h' 168 9 = pl → opn n (ah_i h (B p + 1)) (ah_i h (B p + 2)) r pl → (r = 0 → ∀ e, e < 4 * n → ah_i h' 176 e = nI (mt n (AN (ah_i h (B p + 2))) e)) → fr [168, 176, 177, 178, 179, 180] h h' → Q (some (.int (nI r))) h') : ex_S yX12_openOf mX12_openOf (d + 3) [.ref 168, .int (nI p)] h bc bs Q := by
  obtain ⟨h24, hN, hN2, hP⟩ := x.2.2.2.1
  obtain ⟨hq, hX⟩ := hP p hp
  obtain ⟨x1, x2, x3, -, ⟨n, l, y1, y2, y3, y4, y5, y6, y7, y8, y9⟩, -⟩ := hX
  exact m_openOf x.1 (by omega) y2 y6 y7 y8 (fun h' r pl F f1 f2 f3 f4 => k h' n r pl y1 y6.1 (fms_open F f1) f2 f3 f4 F)
end PUB
