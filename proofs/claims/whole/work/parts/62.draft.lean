/-! Drafts: pure pictures, and the small changes to them on both sides. -/
/-- a picture of n whole crossings, l loose circles, arcs A: the class's at b, the reference's slot s -/
def cD (h : AH) (b n l : Nat) (A : Nat → Nat) : Prop := ah_f h b 2 = nI n ∧ ah_f h b 3 = nI l ∧ (∀ c, c < n → ah_i h (b + 1) c = nI 4) ∧ ∀ e, e < 4 * n → ah_i h (b + 2) e = nI (A e)
def mD (h : AH) (s n l : Nat) (A : Nat → Nat) : Prop := ah_i h 170 s = nI n ∧ ah_i h 171 s = nI l ∧ (∀ c, c < n → ah_i h 172 (40 * s + c) = nI 4) ∧ ∀ e, e < 4 * n → ah_i h 173 (160 * s + e) = nI (A e)
def fS (s : Nat) (h h' : AH) : Prop := fr [170, 171, 172, 173, 175, 195, 196] h h' ∧ ∀ t, t ≠ s → sl h h' t
def jn (y z : Nat) (A : Nat → Nat) : Nat → Nat := fun e => if A e = z then y else A e
def jl (y z l : Nat) : Nat := if y = z then l + 1 else l
def rmv (c : Nat) (A : Nat → Nat) : Nat → Nat := fun e => if e < 4 * c then A e else A (e + 4)
def apd (n : Nat) (A : Nat → Nat) (a b c d : Nat) : Nat → Nat := fun e => if e < 4 * n then A e else if e = 4 * n then a else if e = 4 * n + 1 then b else if e = 4 * n + 2 then c else d
def rot (c k : Nat) (A : Nat → Nat) : Nat → Nat := fun e => if e / 4 = c then A (4 * c + (e + k) % 4) else A e
def tov (c : Nat) (A : Nat → Nat) : Nat → Nat := fun e => if e / 4 = c then (if e % 2 = 0 then A (e + 1) else A (e - 1)) else A e
theorem jn_same (y : Nat) (A : Nat → Nat) : jn y y A = A := by
  funext e
  unfold jn
  split
  · next w => exact w.symm
  · rfl
theorem jl_y (y l : Nat) : jl y y l = l + 1 := if_pos rfl
theorem jl_n {y z : Nat} (l : Nat) (h : y ≠ z) : jl y z l = l := if_neg h
theorem jl_le (y z l : Nat) : l ≤ jl y z l ∧ jl y z l ≤ l + 1 := by
  unfold jl
  split <;> omega
theorem jn_lt {y z n : Nat} {A : Nat → Nat} (hA : ∀ e, e < n → A e < 100) (hy : y < 100) : ∀ e, e < n → jn y z A e < 100 := fun e he => by
  unfold jn
  split
  · exact hy
  · exact hA e he
theorem rmv_lt {c n : Nat} {A : Nat → Nat} (hA : ∀ e, e < 4 * n → A e < 100) (hc : c < n) : ∀ e, e < 4 * (n - 1) → rmv c A e < 100 := fun e he => by
  unfold rmv
  split
  · exact hA e (by omega)
  · exact hA (e + 4) (by omega)
theorem sub_jn {f : Nat → Int32} {at_ n y z : Nat} {A : Nat → Nat} (hf : ∀ e, e < n → f (at_ + e) = nI (A e)) (hA : ∀ e, e < n → A e < 100) (hz : z < 100) {e : Nat} (he : e < n) : sub_ f at_ n (nI y) (nI z) (at_ + e) = nI (jn y z A e) := by
  unfold sub_ jn
  have := hA e he
  by_cases q : A e = z
  · rw [if_pos ⟨by omega, by omega, by rw [hf e he, q]⟩, if_pos q]
  · have nq : ¬ (at_ ≤ at_ + e ∧ at_ + e < at_ + n ∧ f (at_ + e) = nI z) := fun w => by
      have w2 := w.2.2
      rw [hf e he, nI_eq (by omega) (by omega)] at w2
      exact q w2
    rw [if_neg nq, if_neg q, hf e he]
theorem fS_refl (s : Nat) (h : AH) : fS s h h := ⟨fr_refl _ h, fun t _ => sl_refl h t⟩
theorem fS_trans {s : Nat} {h h1 h2 : AH} (x : fS s h h1) (y : fS s h1 h2) : fS s h h2 := ⟨fr_trans x.1 y.1, fun t ht => sl_trans (x.2 t ht) (y.2 t ht)⟩
theorem fS_sp {s : Nat} {h h1 : AH} (K : sp h) (x : fS s h h1) : sp h1 := sp_fr K x.1
theorem fS_sc {s : Nat} {L : List Nat} {h h1 : AH} (F : fr L h h1) (q : ∀ a, a ∈ L → a = 175 ∨ a = 195 ∨ a = 196) : fS s h h1 := by
  refine ⟨fr_mono F (fun a ha => ?_), fun t _ => sl_of t (fr_i F 170 (fun w => ?_)) (fr_i F 171 (fun w => ?_)) (fr_i F 172 (fun w => ?_)) (fr_i F 173 (fun w => ?_))⟩
  · rcases q a ha with e | e | e <;> rw [e] <;> decide
  · have := q _ w; omega
  · have := q _ w; omega
  · have := q _ w; omega
  · have := q _ w; omega
theorem fS_fms {h h1 : AH} (x : fS 364 h h1) : fms h h1 := fms_fr x.1 (by decide) (fun k _ => by rw [fr_f x.1 168 (by decide)]) (fun s hs => x.2 s (by omega))
theorem mD_sc {s n l : Nat} {A : Nat → Nat} {L : List Nat} {h h1 : AH} (D : mD h s n l A) (F : fr L h h1) (q : 170 ∉ L ∧ 171 ∉ L ∧ 172 ∉ L ∧ 173 ∉ L) : mD h1 s n l A := by
  unfold mD
  rw [fr_i F 170 q.1, fr_i F 171 q.2.1, fr_i F 172 q.2.2.1, fr_i F 173 q.2.2.2]
  exact D
theorem cD_sc {b n l : Nat} {A : Nat → Nat} {L : List Nat} {h h1 : AH} (D : cD h b n l A) (F : fr L h h1) (q : b ∉ L ∧ b + 1 ∉ L ∧ b + 2 ∉ L) : cD h1 b n l A := by
  unfold cD
  rw [fr_f F b q.1, fr_i F (b + 1) q.2.1, fr_i F (b + 2) q.2.2]
  exact D
section DRA
variable {h : AH} {d bc bs : Nat} {Q : Option Value → AH → Prop} {A : Nat → Nat}
theorem c_fuseD {b n l y z : Nat} (P : pt h b) (D : cD h b n l A) (h40 : n ≤ 40) (hA : ∀ e, e < 4 * n → A e < 100) (hy : y < 100) (hz : z < 100) (k : ∀ h', fr [b, b + 1, b + 2] h h' → cD h' b n (jl y z l) (jn y z A) → Q none h') : ex_S yX7_fuse mX7_fuse d [.ref b, .int (nI y), .int (nI z)] h bc bs Q := by
  obtain ⟨d0, d1, d2, d3⟩ := D
  by_cases e : y = z
  · subst e
    refine c_fuse1 P d1 (nI y) (fun h' F g => k h' (fr_mono F (fun a ha => by simp only [List.mem_cons, List.not_mem_nil, or_false] at ha ⊢; omega)) ⟨?_, ?_, ?_, ?_⟩)
    · rw [g, u1_n _ _ (by decide)]; exact d0
    · rw [g, u1_s, jl_y]
    · rw [fr_i F (b + 1) (by simp only [List.mem_cons, List.not_mem_nil, or_false, true_or, or_true, not_true_eq_false] <;> omega)]; exact d2
    · rw [jn_same, fr_i F (b + 2) (by simp only [List.mem_cons, List.not_mem_nil, or_false, true_or, or_true, not_true_eq_false] <;> omega)]; exact d3
  · refine c_fuse P d0 h40 (fun w => e ((nI_eq (by omega) (by omega)).mp w)) (fun h' F g => k h' (fr_mono F (fun a ha => by simp only [List.mem_cons, List.not_mem_nil, or_false] at ha ⊢; omega)) ⟨?_, ?_, ?_, ?_⟩)
    · rw [fr_f F b (by simp only [List.mem_cons, List.not_mem_nil, or_false, true_or, or_true, not_true_eq_false] <;> omega)]; exact d0
    · rw [fr_f F b (by simp only [List.mem_cons, List.not_mem_nil, or_false, true_or, or_true, not_true_eq_false] <;> omega), jl_n l e]; exact d1
    · rw [fr_i F (b + 1) (by simp only [List.mem_cons, List.not_mem_nil, or_false, true_or, or_true, not_true_eq_false] <;> omega)]; exact d2
    · intro x hx
      have := sub_jn (f := ah_i h (b + 2)) (at_ := 0) (n := 4 * n) (y := y) (z := z) (A := A) (fun e he => by rw [Nat.zero_add]; exact d3 e he) hA hz hx
      rw [Nat.zero_add] at this
      rw [g]
      exact this
theorem m_joinD {s n l y z : Nat} (K : sp h) (hs : s < 368) (D : mD h s n l A) (h40 : n ≤ 40) (hA : ∀ e, e < 4 * n → A e < 100) (hy : y < 100) (hz : z < 100) (k : ∀ h', fS s h h' → mD h' s n (jl y z l) (jn y z A) → Q none h') : ex_S yX12_joinArcs mX12_joinArcs d [.ref 168, .int (nI s), .int (nI y), .int (nI z)] h bc bs Q := by
  obtain ⟨d0, d1, d2, d3⟩ := D
  by_cases e : y = z
  · subst e
    refine m_joinArcs1 K hs d0 h40 d1 (nI y) (fun h' F g1 g3 => k h' ⟨fr_mono F (by decide), fun t ht => ⟨by rw [fr_i F 170 (by decide)], by rw [g1, u1_n _ _ ht], fun _ _ => by rw [fr_i F 172 (by decide)], fun _ _ => by rw [g3]⟩⟩ ⟨?_, ?_, ?_, ?_⟩)
    · rw [fr_i F 170 (by decide)]; exact d0
    · rw [g1, u1_s, jl_y]
    · rw [fr_i F 172 (by decide)]; exact d2
    · rw [jn_same, g3]; exact d3
  · refine m_joinArcs K hs d0 h40 (fun w => e ((nI_eq (by omega) (by omega)).mp w)) (fun h' F g => k h' ⟨fr_mono F (by decide), fun t ht => ⟨by rw [fr_i F 170 (by decide)], by rw [fr_i F 171 (by decide)], fun _ _ => by rw [fr_i F 172 (by decide)], fun x hx => ?_⟩⟩ ⟨?_, ?_, ?_, ?_⟩)
    · rw [g]
      exact if_neg (by omega)
    · rw [fr_i F 170 (by decide)]; exact d0
    · rw [fr_i F 171 (by decide), jl_n l e]; exact d1
    · rw [fr_i F 172 (by decide)]; exact d2
    · intro x hx
      rw [g]
      exact sub_jn d3 hA hz hx
theorem c_removeD {b n l c : Nat} (P : pt h b) (D : cD h b n l A) (h40 : n ≤ 40) (hc : c < n) (k : ∀ h', fr [b, b + 1, b + 2] h h' → cD h' b (n - 1) l (rmv c A) → Q none h') : ex_S yX7_remove mX7_remove (d + 2) [.ref b, .int (nI c)] h bc bs Q := by
  obtain ⟨d0, d1, d2, d3⟩ := D
  have bx := P.1
  have ic : ix (nI c) n := (ix_nI (by omega)).mpr hc
  have hv : X7_hasCrossing_V b (nI c) h = nI 0 ↔ ¬ ix (nI c) n := hasC d0 h40 (nI c)
  have hcc : X7_hasCrossing_C b (nI c) h := ⟨fun _ => trivial, fun _ => ⟨pt_o P, trivial⟩⟩
  have cp1 := cp_nI (h := h) (sp_ := 4 * c + 4) (dp := 4 * c) (n := 4 * (n - 1 - c)) P.2.2.2.2.2 P.2.2.2.2.2 (by omega) (by omega) (by omega) (by omega)
  have cp2 := cp_nI (h := h) (sp_ := c + 1) (dp := c) (n := n - 1 - c) P.2.2.2.2.1 P.2.2.2.2.1 (by omega) (by omega) (by omega) (by omega)
  have m0 : b ∈ [b, b + 1, b + 2] := (by simp only [List.mem_cons, List.not_mem_nil, or_false, true_or, or_true, not_true_eq_false] <;> omega)
  have m1_ : b + 1 ∈ [b, b + 1, b + 2] := (by simp only [List.mem_cons, List.not_mem_nil, or_false, true_or, or_true, not_true_eq_false] <;> omega)
  have m2 : b + 2 ∈ [b, b + 1, b + 2] := (by simp only [List.mem_cons, List.not_mem_nil, or_false, true_or, or_true, not_true_eq_false] <;> omega)
  have key : ∀ ha v, fr [b, b + 1, b + 2] h ha → ah_f ha b = u1 (ah_f h b) 2 (nI (n - 1)) → ah_i ha (b + 1) = va_cpy (ah_i h (b + 1)) (ah_i h (b + 1)) (c + 1) c (n - 1 - c) → ah_i ha (b + 2) = va_cpy (ah_i h (b + 2)) (ah_i h (b + 2)) (4 * c + 4) (4 * c) (4 * (n - 1 - c)) → ex_S yJ7_fill_fda19 mJ7_fill_fda19 (d + 1) [.ref (b + 2), .int (nI (4 * (n - 1))), .int (nI (4 * (n - 1) + 4)), .int v] ha 0 0 (fun r h12 => r = none ∧ Q none h12) := by
    intro ha v F g0 g1 g2
    refine j_fillp (n := 160) (pt_fr P F).2.2.2.2.2 (by omega) v (by omega) (by omega) ⟨rfl, ?_⟩
    have F2 : fr [b, b + 1, b + 2] h (ah_wi ha (b + 2) (flp (ah_i ha (b + 2)) (4 * (n - 1)) (4 * (n - 1) + 4) v)) := fr_wi F m2
    have q1 : ah_i (ah_wi ha (b + 2) (flp (ah_i ha (b + 2)) (4 * (n - 1)) (4 * (n - 1) + 4) v)) (b + 1) = ah_i ha (b + 1) := i_wi_n _ _ _ _ (by omega)
    have q2 : ah_i (ah_wi ha (b + 2) (flp (ah_i ha (b + 2)) (4 * (n - 1)) (4 * (n - 1) + 4) v)) (b + 2) = flp (ah_i ha (b + 2)) (4 * (n - 1)) (4 * (n - 1) + 4) v := i_wi_s _ _ _
    have q3 : ah_f (ah_wi ha (b + 2) (flp (ah_i ha (b + 2)) (4 * (n - 1)) (4 * (n - 1) + 4) v)) b = ah_f ha b := by rw [f_wi]
    refine k _ F2 ⟨?_, ?_, ?_, ?_⟩
    · rw [q3, g0, u1_s]
    · rw [q3, g0, u1_n _ _ (by decide)]; exact d1
    · intro x hx
      rw [q1, g1]
      by_cases w : c ≤ x
      · rw [pk_cpy_in w (by omega)]; exact d2 _ (by omega)
      · rw [pk_cpy_out (by omega)]; exact d2 _ (by omega)
    · intro x hx
      rw [q2, g2]
      unfold flp rmv
      rw [if_neg (by omega)]
      by_cases w : x < 4 * c
      · rw [if_pos w, pk_cpy_out (by omega)]; exact d3 _ (by omega)
      · rw [if_neg w, pk_cpy_in (by omega) (by omega), show 4 * c + 4 + (x - 4 * c) = x + 4 by omega]; exact d3 _ (by omega)
  refine X7_remove_e (X7_remove_0 ?_)
  simp (disch := omega) only [pt_o P, pt_r0 P, pt_r1 P, hcc, hv, ic, d0, cp1, cp2, forall_eq, Option.some.injEq, exists_eq_left', Option.getD_some, n_sf, k_sf, f_sf_s, f_sf_n, r_sf, i_sf, l_sf, q_sf, ld0_sf, st0_sf, ld1_sf, ld2_sf, ld3_sf, ah_o_sf, in__sf, cp__sf, ah_x_sf, ah_ra_sf, n_si, k_si, f_si, r_si, i_si_s, i_si_n, l_si, q_si, ld0_si, st0_si, ld1_si, ld2_si, ld3_si, ah_o_si, in__si, cp__si, ah_x_si, ah_ra_si, n_sl, k_sl, f_sl, r_sl, i_sl, l_sl_s, l_sl_n, q_sl, ld0_sl, st0_sl, ld1_sl, ld2_sl, ld3_sl, ah_o_sl, in__sl, cp__sl, ah_x_sl, ah_ra_sl, n_wi, k_wi, f_wi, r_wi, i_wi_s, i_wi_n, l_wi, q_wi, ld0_wi, st0_wi, ld1_wi, ld2_wi, ld3_wi, ah_o_wi, in__wi, cp__wi, ah_x_wi, ah_ra_wi, n_wl, k_wl, f_wl, r_wl, i_wl, l_wl_s, l_wl_n, q_wl, ld0_wl, st0_wl, ld1_wl, ld2_wl, ld3_wl, ah_o_wl, in__wl, cp__wl, ah_x_wl, ah_ra_wl, n_sr, k_sr, f_sr, r_sr_s, r_sr_n, i_sr, l_sr, q_sr, n_sq, k_sq, f_sq, r_sq, i_sq, l_sq, q_sq_s, q_sq_n, not_true_eq_false, not_false_eq_true, false_implies, true_implies, forall_const, implies_true, and_true, true_and, Classical.not_not, il_0, il_1, il_2, il_3, il_4, il_5, il_6, il_7, il_8, il_9, il_10, il_11, il_12, il_13, il_14, il_15, il_16, il_17, il_18, il_19, il_20, il_24, il_30, il_31, il_38, il_39, il_40, il_41, il_48, il_50, il_59, il_60, il_63, il_64, il_70, il_80, il_99, il_100, il_120, il_130, il_140, il_144, il_159, il_160, il_162, il_200, il_210, il_240, il_264, il_280, il_281, il_300, il_364, il_368, il_599, il_600, il_601, il_999, il_1610, il_1620, il_1800, il_4000, il_5000, il_7000, il_14500, il_58240, il_1000000, m1_e, nI_1, nI_add, pk_mul, pk_div, pk_sub, nI_clamp, nI_leI, nI_ltI, nI_eq, m1_lt, m1_le, m1_gt, m1_ge, m1_ne, m1_en, ix_nI, im_nI, and1, and3, sh2_, shr2, corner_nI, turned_nI, u1_s]
  refine key _ _ (fr_sf (fr_wi (fr_wi (fr_refl _ h) m2) m1_) m0) ?_ ?_ ?_
  · simp (disch := omega) only [n_sf, k_sf, f_sf_s, f_sf_n, r_sf, i_sf, l_sf, q_sf, ld0_sf, st0_sf, ld1_sf, ld2_sf, ld3_sf, ah_o_sf, in__sf, cp__sf, ah_x_sf, ah_ra_sf, n_si, k_si, f_si, r_si, i_si_s, i_si_n, l_si, q_si, ld0_si, st0_si, ld1_si, ld2_si, ld3_si, ah_o_si, in__si, cp__si, ah_x_si, ah_ra_si, n_sl, k_sl, f_sl, r_sl, i_sl, l_sl_s, l_sl_n, q_sl, ld0_sl, st0_sl, ld1_sl, ld2_sl, ld3_sl, ah_o_sl, in__sl, cp__sl, ah_x_sl, ah_ra_sl, n_wi, k_wi, f_wi, r_wi, i_wi_s, i_wi_n, l_wi, q_wi, ld0_wi, st0_wi, ld1_wi, ld2_wi, ld3_wi, ah_o_wi, in__wi, cp__wi, ah_x_wi, ah_ra_wi, n_wl, k_wl, f_wl, r_wl, i_wl, l_wl_s, l_wl_n, q_wl, ld0_wl, st0_wl, ld1_wl, ld2_wl, ld3_wl, ah_o_wl, in__wl, cp__wl, ah_x_wl, ah_ra_wl, n_sr, k_sr, f_sr, r_sr_s, r_sr_n, i_sr, l_sr, q_sr, n_sq, k_sq, f_sq, r_sq, i_sq, l_sq, q_sq_s, q_sq_n]
  · simp (disch := omega) only [n_sf, k_sf, f_sf_s, f_sf_n, r_sf, i_sf, l_sf, q_sf, ld0_sf, st0_sf, ld1_sf, ld2_sf, ld3_sf, ah_o_sf, in__sf, cp__sf, ah_x_sf, ah_ra_sf, n_si, k_si, f_si, r_si, i_si_s, i_si_n, l_si, q_si, ld0_si, st0_si, ld1_si, ld2_si, ld3_si, ah_o_si, in__si, cp__si, ah_x_si, ah_ra_si, n_sl, k_sl, f_sl, r_sl, i_sl, l_sl_s, l_sl_n, q_sl, ld0_sl, st0_sl, ld1_sl, ld2_sl, ld3_sl, ah_o_sl, in__sl, cp__sl, ah_x_sl, ah_ra_sl, n_wi, k_wi, f_wi, r_wi, i_wi_s, i_wi_n, l_wi, q_wi, ld0_wi, st0_wi, ld1_wi, ld2_wi, ld3_wi, ah_o_wi, in__wi, cp__wi, ah_x_wi, ah_ra_wi, n_wl, k_wl, f_wl, r_wl, i_wl, l_wl_s, l_wl_n, q_wl, ld0_wl, st0_wl, ld1_wl, ld2_wl, ld3_wl, ah_o_wl, in__wl, cp__wl, ah_x_wl, ah_ra_wl, n_sr, k_sr, f_sr, r_sr_s, r_sr_n, i_sr, l_sr, q_sr, n_sq, k_sq, f_sq, r_sq, i_sq, l_sq, q_sq_s, q_sq_n]
  · simp (disch := omega) only [n_sf, k_sf, f_sf_s, f_sf_n, r_sf, i_sf, l_sf, q_sf, ld0_sf, st0_sf, ld1_sf, ld2_sf, ld3_sf, ah_o_sf, in__sf, cp__sf, ah_x_sf, ah_ra_sf, n_si, k_si, f_si, r_si, i_si_s, i_si_n, l_si, q_si, ld0_si, st0_si, ld1_si, ld2_si, ld3_si, ah_o_si, in__si, cp__si, ah_x_si, ah_ra_si, n_sl, k_sl, f_sl, r_sl, i_sl, l_sl_s, l_sl_n, q_sl, ld0_sl, st0_sl, ld1_sl, ld2_sl, ld3_sl, ah_o_sl, in__sl, cp__sl, ah_x_sl, ah_ra_sl, n_wi, k_wi, f_wi, r_wi, i_wi_s, i_wi_n, l_wi, q_wi, ld0_wi, st0_wi, ld1_wi, ld2_wi, ld3_wi, ah_o_wi, in__wi, cp__wi, ah_x_wi, ah_ra_wi, n_wl, k_wl, f_wl, r_wl, i_wl, l_wl_s, l_wl_n, q_wl, ld0_wl, st0_wl, ld1_wl, ld2_wl, ld3_wl, ah_o_wl, in__wl, cp__wl, ah_x_wl, ah_ra_wl, n_sr, k_sr, f_sr, r_sr_s, r_sr_n, i_sr, l_sr, q_sr, n_sq, k_sq, f_sq, r_sq, i_sq, l_sq, q_sq_s, q_sq_n]
theorem m_takeOutD {s n l c : Nat} (K : sp h) (hs : s < 368) (D : mD h s n l A) (h40 : n ≤ 40) (hc : c < n) (k : ∀ h', fS s h h' → mD h' s (n - 1) l (rmv c A) → Q none h') : ex_S yX12_takeOut mX12_takeOut d [.ref 168, .int (nI s), .int (nI c)] h bc bs Q := by
  obtain ⟨d0, d1, d2, d3⟩ := D
  refine X12_takeOut_e (X12_takeOut_0 ?_)
  simp (disch := omega) only [o168 K, r168_2 K, s170 K, t170 K, d0, forall_eq, Option.some.injEq, exists_eq_left', Option.getD_some, n_sf, k_sf, f_sf_s, f_sf_n, r_sf, i_sf, l_sf, q_sf, ld0_sf, st0_sf, ld1_sf, ld2_sf, ld3_sf, ah_o_sf, in__sf, cp__sf, ah_x_sf, ah_ra_sf, n_si, k_si, f_si, r_si, i_si_s, i_si_n, l_si, q_si, ld0_si, st0_si, ld1_si, ld2_si, ld3_si, ah_o_si, in__si, cp__si, ah_x_si, ah_ra_si, n_sl, k_sl, f_sl, r_sl, i_sl, l_sl_s, l_sl_n, q_sl, ld0_sl, st0_sl, ld1_sl, ld2_sl, ld3_sl, ah_o_sl, in__sl, cp__sl, ah_x_sl, ah_ra_sl, n_wi, k_wi, f_wi, r_wi, i_wi_s, i_wi_n, l_wi, q_wi, ld0_wi, st0_wi, ld1_wi, ld2_wi, ld3_wi, ah_o_wi, in__wi, cp__wi, ah_x_wi, ah_ra_wi, n_wl, k_wl, f_wl, r_wl, i_wl, l_wl_s, l_wl_n, q_wl, ld0_wl, st0_wl, ld1_wl, ld2_wl, ld3_wl, ah_o_wl, in__wl, cp__wl, ah_x_wl, ah_ra_wl, n_sr, k_sr, f_sr, r_sr_s, r_sr_n, i_sr, l_sr, q_sr, n_sq, k_sq, f_sq, r_sq, i_sq, l_sq, q_sq_s, q_sq_n, il_0, il_1, il_2, il_3, il_4, il_5, il_6, il_7, il_8, il_9, il_10, il_11, il_12, il_13, il_14, il_15, il_16, il_17, il_18, il_19, il_20, il_24, il_30, il_31, il_38, il_39, il_40, il_41, il_48, il_50, il_59, il_60, il_63, il_64, il_70, il_80, il_99, il_100, il_120, il_130, il_140, il_144, il_159, il_160, il_162, il_200, il_210, il_240, il_264, il_280, il_281, il_300, il_364, il_368, il_599, il_600, il_601, il_999, il_1610, il_1620, il_1800, il_4000, il_5000, il_7000, il_14500, il_58240, il_1000000, m1_e, nI_1, nI_add, pk_mul, pk_div, pk_sub, nI_clamp, nI_leI, nI_ltI, nI_eq, m1_lt, m1_le, m1_gt, m1_ge, m1_ne, m1_en, ix_nI, im_nI, and1, and3, sh2_, shr2, corner_nI, turned_nI]
  refine ⟨trivial, hs, hs, ?_⟩
  refine lp (4 * (n - 1) - 4 * c) (fun t h' => fr [170, 173] h h' ∧ ah_i h' 170 = u1 (ah_i h 170) s (nI (n - 1)) ∧ ah_i h' 173 = va_cpy (ah_i h 173) (ah_i h 173) (160 * s + 4 * c + 4) (160 * s + 4 * c) t) (fun t h' => ex_G mX12_takeOut d 14 [.ref 168, .int (nI s), .retAddr 0, .int (nI (4 * c + t))] [] h' bc bs Q) ?_ ?_ ?_
  · refine ⟨fr_si (fr_refl _ h) (by decide), ?_, ?_⟩ <;> simp (disch := omega) only [n_sf, k_sf, f_sf_s, f_sf_n, r_sf, i_sf, l_sf, q_sf, ld0_sf, st0_sf, ld1_sf, ld2_sf, ld3_sf, ah_o_sf, in__sf, cp__sf, ah_x_sf, ah_ra_sf, n_si, k_si, f_si, r_si, i_si_s, i_si_n, l_si, q_si, ld0_si, st0_si, ld1_si, ld2_si, ld3_si, ah_o_si, in__si, cp__si, ah_x_si, ah_ra_si, n_sl, k_sl, f_sl, r_sl, i_sl, l_sl_s, l_sl_n, q_sl, ld0_sl, st0_sl, ld1_sl, ld2_sl, ld3_sl, ah_o_sl, in__sl, cp__sl, ah_x_sl, ah_ra_sl, n_wi, k_wi, f_wi, r_wi, i_wi_s, i_wi_n, l_wi, q_wi, ld0_wi, st0_wi, ld1_wi, ld2_wi, ld3_wi, ah_o_wi, in__wi, cp__wi, ah_x_wi, ah_ra_wi, n_wl, k_wl, f_wl, r_wl, i_wl, l_wl_s, l_wl_n, q_wl, ld0_wl, st0_wl, ld1_wl, ld2_wl, ld3_wl, ah_o_wl, in__wl, cp__wl, ah_x_wl, ah_ra_wl, n_sr, k_sr, f_sr, r_sr_s, r_sr_n, i_sr, l_sr, q_sr, n_sq, k_sq, f_sq, r_sq, i_sq, l_sq, q_sq_s, q_sq_n, cpy_0]
  · rintro t h1 ht ⟨F, e0, e3⟩ nx
    have K1 := sp_fr K F
    have hn1 : ah_i h1 170 s = nI (n - 1) := by rw [e0, u1_s]
    refine X12_takeOut_14 ?_
    simp (disch := omega) only [o168 K1, r168_2 K1, s170 K1, t170 K1, r168_5 K1, s173 K1, t173 K1, hn1, forall_eq, Option.some.injEq, exists_eq_left', Option.getD_some, n_sf, k_sf, f_sf_s, f_sf_n, r_sf, i_sf, l_sf, q_sf, ld0_sf, st0_sf, ld1_sf, ld2_sf, ld3_sf, ah_o_sf, in__sf, cp__sf, ah_x_sf, ah_ra_sf, n_si, k_si, f_si, r_si, i_si_s, i_si_n, l_si, q_si, ld0_si, st0_si, ld1_si, ld2_si, ld3_si, ah_o_si, in__si, cp__si, ah_x_si, ah_ra_si, n_sl, k_sl, f_sl, r_sl, i_sl, l_sl_s, l_sl_n, q_sl, ld0_sl, st0_sl, ld1_sl, ld2_sl, ld3_sl, ah_o_sl, in__sl, cp__sl, ah_x_sl, ah_ra_sl, n_wi, k_wi, f_wi, r_wi, i_wi_s, i_wi_n, l_wi, q_wi, ld0_wi, st0_wi, ld1_wi, ld2_wi, ld3_wi, ah_o_wi, in__wi, cp__wi, ah_x_wi, ah_ra_wi, n_wl, k_wl, f_wl, r_wl, i_wl, l_wl_s, l_wl_n, q_wl, ld0_wl, st0_wl, ld1_wl, ld2_wl, ld3_wl, ah_o_wl, in__wl, cp__wl, ah_x_wl, ah_ra_wl, n_sr, k_sr, f_sr, r_sr_s, r_sr_n, i_sr, l_sr, q_sr, n_sq, k_sq, f_sq, r_sq, i_sq, l_sq, q_sq_s, q_sq_n, il_0, il_1, il_2, il_3, il_4, il_5, il_6, il_7, il_8, il_9, il_10, il_11, il_12, il_13, il_14, il_15, il_16, il_17, il_18, il_19, il_20, il_24, il_30, il_31, il_38, il_39, il_40, il_41, il_48, il_50, il_59, il_60, il_63, il_64, il_70, il_80, il_99, il_100, il_120, il_130, il_140, il_144, il_159, il_160, il_162, il_200, il_210, il_240, il_264, il_280, il_281, il_300, il_364, il_368, il_599, il_600, il_601, il_999, il_1610, il_1620, il_1800, il_4000, il_5000, il_7000, il_14500, il_58240, il_1000000, m1_e, nI_1, nI_add, pk_mul, pk_div, pk_sub, nI_clamp, nI_leI, nI_ltI, nI_eq, m1_lt, m1_le, m1_gt, m1_ge, m1_ne, m1_en, ix_nI, im_nI, and1, and3, sh2_, shr2, corner_nI, turned_nI]
    refine ⟨trivial, hs, fun q => by omega, fun _ => ⟨by omega, by omega, nx _ ⟨fr_si F (by decide), ?_, ?_⟩⟩⟩
    · rw [i_si_n _ _ _ _ _ (by decide)]; exact e0
    · rw [i_si_s, e3]
      have := cpy_step (ah_i h 173) (160 * s + 4 * c + 4) (160 * s + 4 * c) t (by omega)
      rw [show 160 * s + (4 * c + t) = 160 * s + 4 * c + t by omega, show 160 * s + 4 * c + t + 4 = 160 * s + 4 * c + 4 + t by omega]
      exact this
  · rintro h1 ⟨F, e0, e3⟩
    have K1 := sp_fr K F
    have hn1 : ah_i h1 170 s = nI (n - 1) := by rw [e0, u1_s]
    refine X12_takeOut_14 ?_
    simp (disch := omega) only [o168 K1, r168_2 K1, s170 K1, t170 K1, r168_5 K1, s173 K1, t173 K1, hn1, forall_eq, Option.some.injEq, exists_eq_left', Option.getD_some, n_sf, k_sf, f_sf_s, f_sf_n, r_sf, i_sf, l_sf, q_sf, ld0_sf, st0_sf, ld1_sf, ld2_sf, ld3_sf, ah_o_sf, in__sf, cp__sf, ah_x_sf, ah_ra_sf, n_si, k_si, f_si, r_si, i_si_s, i_si_n, l_si, q_si, ld0_si, st0_si, ld1_si, ld2_si, ld3_si, ah_o_si, in__si, cp__si, ah_x_si, ah_ra_si, n_sl, k_sl, f_sl, r_sl, i_sl, l_sl_s, l_sl_n, q_sl, ld0_sl, st0_sl, ld1_sl, ld2_sl, ld3_sl, ah_o_sl, in__sl, cp__sl, ah_x_sl, ah_ra_sl, n_wi, k_wi, f_wi, r_wi, i_wi_s, i_wi_n, l_wi, q_wi, ld0_wi, st0_wi, ld1_wi, ld2_wi, ld3_wi, ah_o_wi, in__wi, cp__wi, ah_x_wi, ah_ra_wi, n_wl, k_wl, f_wl, r_wl, i_wl, l_wl_s, l_wl_n, q_wl, ld0_wl, st0_wl, ld1_wl, ld2_wl, ld3_wl, ah_o_wl, in__wl, cp__wl, ah_x_wl, ah_ra_wl, n_sr, k_sr, f_sr, r_sr_s, r_sr_n, i_sr, l_sr, q_sr, n_sq, k_sq, f_sq, r_sq, i_sq, l_sq, q_sq_s, q_sq_n, il_0, il_1, il_2, il_3, il_4, il_5, il_6, il_7, il_8, il_9, il_10, il_11, il_12, il_13, il_14, il_15, il_16, il_17, il_18, il_19, il_20, il_24, il_30, il_31, il_38, il_39, il_40, il_41, il_48, il_50, il_59, il_60, il_63, il_64, il_70, il_80, il_99, il_100, il_120, il_130, il_140, il_144, il_159, il_160, il_162, il_200, il_210, il_240, il_264, il_280, il_281, il_300, il_364, il_368, il_599, il_600, il_601, il_999, il_1610, il_1620, il_1800, il_4000, il_5000, il_7000, il_14500, il_58240, il_1000000, m1_e, nI_1, nI_add, pk_mul, pk_div, pk_sub, nI_clamp, nI_leI, nI_ltI, nI_eq, m1_lt, m1_le, m1_gt, m1_ge, m1_ne, m1_en, ix_nI, im_nI, and1, and3, sh2_, shr2, corner_nI, turned_nI]
    refine ⟨trivial, hs, fun _ => k h1 ⟨fr_mono F (by decide), fun t ht => ⟨by rw [e0, u1_n _ _ ht], by rw [fr_i F 171 (by decide)], fun _ _ => by rw [fr_i F 172 (by decide)], fun x hx => ?_⟩⟩ ⟨hn1, ?_, ?_, ?_⟩, fun q => by omega⟩
    · rw [e3, pk_cpy_out (by omega)]
    · rw [fr_i F 171 (by decide)]; exact d1
    · rw [fr_i F 172 (by decide)]; exact fun x hx => d2 x (by omega)
    · intro x hx
      rw [e3]
      unfold rmv
      by_cases w : x < 4 * c
      · rw [if_pos w, pk_cpy_out (by omega)]; exact d3 _ (by omega)
      · rw [if_neg w, pk_cpy_in (by omega) (by omega), show 160 * s + 4 * c + 4 + (160 * s + x - (160 * s + 4 * c)) = 160 * s + (x + 4) by omega]; exact d3 _ (by omega)
theorem u4_apd {f : Nat → Int32} {at_ n a b c e : Nat} (hf : ∀ x, x < 4 * n → f (at_ + x) = nI (A x)) {x : Nat} (hx : x < 4 * (n + 1)) : u4 f (at_ + 4 * n) (nI a) (nI b) (nI c) (nI e) (at_ + x) = nI (apd n A a b c e x) := by
  unfold apd
  by_cases q : x < 4 * n
  · rw [if_pos q, u4_n (by omega), hf x q]
  · rw [if_neg q, u4_c (by omega) (by omega)]
    by_cases q0 : x = 4 * n
    · rw [if_pos (by omega), if_pos q0]
    · rw [if_neg (by omega), if_neg q0]
      by_cases q1 : x = 4 * n + 1
      · rw [if_pos (by omega), if_pos q1]
      · rw [if_neg (by omega), if_neg q1]
        by_cases q2 : x = 4 * n + 2
        · rw [if_pos (by omega), if_pos q2]
        · rw [if_neg (by omega), if_neg q2]
theorem c_addD {b n l a0 a1 a2 a3 : Nat} (P : pt h b) (D : cD h b n l A) (h40 : n < 40) (k : ∀ h', fr [b, b + 1, b + 2] h h' → cD h' b (n + 1) l (apd n A a0 a1 a2 a3) → Q none h') : ex_S yX7_add mX7_add d [.ref b, .int (nI a0), .int (nI a1), .int (nI a2), .int (nI a3)] h bc bs Q := by
  obtain ⟨d0, d1, d2, d3⟩ := D
  refine c_add P d0 h40 _ _ _ _ (fun h' F g0 g1 g2 => k h' F ⟨?_, ?_, ?_, ?_⟩)
  · rw [g0, u1_s]
  · rw [g0, u1_n _ _ (by decide)]; exact d1
  · intro x hx
    rw [g1]
    by_cases q : x = n
    · rw [q, u1_s]
    · rw [u1_n _ _ q]; exact d2 x (by omega)
  · intro x hx
    rw [g2]
    have := u4_apd (f := ah_i h (b + 2)) (at_ := 0) (a := a0) (b := a1) (c := a2) (e := a3) (fun x hx => by rw [Nat.zero_add]; exact d3 x hx) hx
    rw [Nat.zero_add, Nat.zero_add] at this
    exact this
theorem m_appD {s n l a0 a1 a2 a3 : Nat} (K : sp h) (hs : s < 368) (D : mD h s n l A) (h40 : n < 40) (k : ∀ h', fS s h h' → mD h' s (n + 1) l (apd n A a0 a1 a2 a3) → Q none h') : ex_S yX12_append mX12_append d [.ref 168, .int (nI s), .int (nI a0), .int (nI a1), .int (nI a2), .int (nI a3)] h bc bs Q := by
  obtain ⟨d0, d1, d2, d3⟩ := D
  refine m_app K hs d0 h40 _ _ _ _ (fun h' F sl_ g0 g1 g2 g3 => k h' ⟨fr_mono F (by decide), sl_⟩ ⟨g0, ?_, ?_, ?_⟩)
  · rw [g1]; exact d1
  · intro x hx
    rw [g2]
    by_cases q : x = n
    · rw [q, u1_s]
    · rw [u1_n _ _ (by omega)]; exact d2 x (by omega)
  · intro x hx
    rw [g3]
    exact u4_apd d3 hx
end DRA
